/-! Steps. -/
theorem c256_0 : qx_code 256 0 = some (0, .aload_n 0, 1, 0, 0, 0) := by decide +kernel
theorem s256_0 {L : Nat} {xs : Nat → Int32} {d x : Nat} {M : qxM} {st : List Value} {a1 : Option Value} {z : Nat} : Rs L xs (d) 256 0 [some (.ref z), a1] st M x = Rs L xs (d) 256 1 [some (.ref z), a1] (.ref z :: st) M x := Rs_next c256_0 rfl
theorem c256_1 : qx_code 256 1 = some (1, .aload_n 0, 2, 0, 0, 0) := by decide +kernel
theorem s256_1 {L : Nat} {xs : Nat → Int32} {d x : Nat} {M : qxM} {st : List Value} {a1 : Option Value} {z : Nat} : Rs L xs (d) 256 1 [some (.ref z), a1] st M x = Rs L xs (d) 256 2 [some (.ref z), a1] (.ref z :: st) M x := Rs_next c256_1 rfl
theorem c256_2 : qx_code 256 2 = some (2, .getfield 187, 5, 8, 6, 1551) := by decide +kernel
theorem s256_2 {L : Nat} {xs : Nat → Int32} {d x : Nat} {M : qxM} {st : List Value} {ls : qxL} {t : Nat} (hk : qx_kd t = 18) : Rs L xs (d) 256 2 ls (.ref t :: st) M x = Rs L xs (d) 256 5 ls (.int (M.1 t 6) :: st) M x := Rs_when (qx_kd_obj (k := 8) (by decide) hk) c256_2 rfl
theorem c256_5 : qx_code 256 5 = some (5, .iload_n 1, 6, 0, 0, 0) := by decide +kernel
theorem s256_5 {L : Nat} {xs : Nat → Int32} {d x : Nat} {M : qxM} {st : List Value} {a0 : Option Value} {z : Int32} : Rs L xs (d) 256 5 [a0, some (.int z)] st M x = Rs L xs (d) 256 6 [a0, some (.int z)] (.int z :: st) M x := Rs_next c256_5 rfl
theorem c256_6 : qx_code 256 6 = some (6, .iconst 0, 7, 0, 0, 0) := by decide +kernel
theorem s256_6 {L : Nat} {xs : Nat → Int32} {d x : Nat} {M : qxM} {st : List Value} {ls : qxL} : Rs L xs (d) 256 6 ls st M x = Rs L xs (d) 256 7 ls (.int (nI 0) :: st) M x := Rs_next c256_6 rfl
theorem c256_7 : qx_code 256 7 = some (7, .bipush 7, 9, 0, 0, 0) := by decide +kernel
theorem s256_7 {L : Nat} {xs : Nat → Int32} {d x : Nat} {M : qxM} {st : List Value} {ls : qxL} : Rs L xs (d) 256 7 ls st M x = Rs L xs (d) 256 9 ls (.int (nI 7) :: st) M x := Rs_next c256_7 rfl
theorem c256_9 : qx_code 256 9 = some (9, .invokestatic 69, 12, 178, 3, 1641) := by decide +kernel
theorem s256_9 {L : Nat} {xs : Nat → Int32} {d x : Nat} {M : qxM} {st : List Value} {ls : qxL} {z0 : Int32} {z1 : Int32} {z2 : Int32} (hs : st.length ≤ 4) : Rs L xs (d + 1) 256 9 ls (.int z2 :: .int z1 :: .int z0 :: st) M x = (Rs L xs d 178 0 [some (.int z0), some (.int z1), some (.int z2)] [] M 0).bind (qx_kn L xs (d + 1) 256 9 12 178 ls st x) := by
  have h1 : qx_act L xs (qx_rt 256) (9, .invokestatic 69, 12, 178, 3, 1641) ls (.int z2 :: .int z1 :: .int z0 :: st) M = if 3 ≤ (.int z2 :: .int z1 :: .int z0 :: st).length ∧ st.length ≤ 4 then some (.inr (.inr (.inr (178, [.int z0, .int z1, .int z2], st)))) else none := rfl
  rw [if_pos ⟨by simp [List.length_cons]; try omega, hs⟩] at h1
  exact Rs_call c256_9 h1 rfl
theorem c256_12 : qx_code 256 12 = some (12, .invokevirtual 216, 15, 181, 3, 1773) := by decide +kernel
theorem s256_12 {L : Nat} {xs : Nat → Int32} {d x : Nat} {M : qxM} {st : List Value} {ls : qxL} {t : Nat} {z0 : Int32} {z1 : Int32} (hk : qx_kd t = 18) (hs : st.length ≤ 4) : Rs L xs (d + 1) 256 12 ls (.int z1 :: .int z0 :: .ref t :: st) M x = (Rs L xs d 181 0 [some (.ref t), some (.int z0), some (.int z1)] [] M 0).bind (qx_kn L xs (d + 1) 256 12 15 181 ls st x) := by
  have h1 : qx_act L xs (qx_rt 256) (12, .invokevirtual 216, 15, 181, 3, 1773) ls (.int z1 :: .int z0 :: .ref t :: st) M = if 3 ≤ (.int z1 :: .int z0 :: .ref t :: st).length ∧ st.length ≤ 4 then some (.inr (.inr (.inr (181, [.ref t, .int z0, .int z1], st)))) else none := rfl
  rw [if_pos ⟨by simp [List.length_cons]; try omega, hs⟩] at h1
  have h2 := qx_kd_obj (k := 8) (by decide) hk
  exact Rs_call c256_12 h1 (by rw [show qx_args 181 [.ref t, .int z0, .int z1] = decide (qx_sh t = some (.inl 8)) from rfl]; exact decide_eq_true h2)
theorem c256_15 : qx_code 256 15 = some (15, .ifCond .ne 5, 18, 20, 0, 0) := by decide +kernel
theorem s256_15 {L : Nat} {xs : Nat → Int32} {d x : Nat} {M : qxM} {st : List Value} {ls : qxL} {z : Int32} : Rs L xs (d) 256 15 ls (.int z :: st) M x = if z = 0 then Rs L xs (d) 256 18 ls st M x else Rs L xs (d) 256 20 ls st M x := Rs_ite c256_15 rfl
theorem c256_18 : qx_code 256 18 = some (18, .iconst 0, 19, 0, 0, 0) := by decide +kernel
theorem s256_18 {L : Nat} {xs : Nat → Int32} {d x : Nat} {M : qxM} {st : List Value} {ls : qxL} : Rs L xs (d) 256 18 ls st M x = Rs L xs (d) 256 19 ls (.int (nI 0) :: st) M x := Rs_next c256_18 rfl
theorem c256_19 : qx_code 256 19 = some (19, .ireturn, 20, 0, 0, 0) := by decide +kernel
theorem s256_19 {L : Nat} {xs : Nat → Int32} {d x : Nat} {M : qxM} {ls : qxL} {z : Int32} : Rs L xs (d) 256 19 ls [.int z] M x = some (.inl (some (.int z)), M, x) := Rs_ret c256_19 rfl
theorem c256_20 : qx_code 256 20 = some (20, .iload_n 1, 21, 0, 0, 0) := by decide +kernel
theorem s256_20 {L : Nat} {xs : Nat → Int32} {d x : Nat} {M : qxM} {st : List Value} {a0 : Option Value} {z : Int32} : Rs L xs (d) 256 20 [a0, some (.int z)] st M x = Rs L xs (d) 256 21 [a0, some (.int z)] (.int z :: st) M x := Rs_next c256_20 rfl
theorem c256_21 : qx_code 256 21 = some (21, .ifCond .le 12, 24, 33, 0, 0) := by decide +kernel
theorem s256_21 {L : Nat} {xs : Nat → Int32} {d x : Nat} {M : qxM} {st : List Value} {ls : qxL} {z : Int32} : Rs L xs (d) 256 21 ls (.int z :: st) M x = if z ≤ 0 then Rs L xs (d) 256 33 ls st M x else Rs L xs (d) 256 24 ls st M x := Rs_ite c256_21 rfl
theorem c256_24 : qx_code 256 24 = some (24, .aload_n 0, 25, 0, 0, 0) := by decide +kernel
theorem s256_24 {L : Nat} {xs : Nat → Int32} {d x : Nat} {M : qxM} {st : List Value} {a1 : Option Value} {z : Nat} : Rs L xs (d) 256 24 [some (.ref z), a1] st M x = Rs L xs (d) 256 25 [some (.ref z), a1] (.ref z :: st) M x := Rs_next c256_24 rfl
theorem c256_25 : qx_code 256 25 = some (25, .invokevirtual 294, 28, 255, 1, 1838) := by decide +kernel
theorem s256_25 {L : Nat} {xs : Nat → Int32} {d x : Nat} {M : qxM} {st : List Value} {ls : qxL} {t : Nat} (hk : qx_kd t = 18) (hs : st.length ≤ 4) : Rs L xs (d + 1) 256 25 ls (.ref t :: st) M x = (Rs L xs d 255 0 [some (.ref t)] [] M 0).bind (qx_kn L xs (d + 1) 256 25 28 255 ls st x) := by
  have h1 : qx_act L xs (qx_rt 256) (25, .invokevirtual 294, 28, 255, 1, 1838) ls (.ref t :: st) M = if 1 ≤ (.ref t :: st).length ∧ st.length ≤ 4 then some (.inr (.inr (.inr (255, [.ref t], st)))) else none := rfl
  rw [if_pos ⟨by simp [List.length_cons]; try omega, hs⟩] at h1
  have h2 := qx_kd_obj (k := 8) (by decide) hk
  exact Rs_call c256_25 h1 (by rw [show qx_args 255 [.ref t] = decide (qx_sh t = some (.inl 8)) from rfl]; exact decide_eq_true h2)
theorem c256_28 : qx_code 256 28 = some (28, .ifCond .ne 5, 31, 33, 0, 0) := by decide +kernel
theorem s256_28 {L : Nat} {xs : Nat → Int32} {d x : Nat} {M : qxM} {st : List Value} {ls : qxL} {z : Int32} : Rs L xs (d) 256 28 ls (.int z :: st) M x = if z = 0 then Rs L xs (d) 256 31 ls st M x else Rs L xs (d) 256 33 ls st M x := Rs_ite c256_28 rfl
theorem c256_31 : qx_code 256 31 = some (31, .iconst (-1), 32, 0, 0, 0) := by decide +kernel
theorem s256_31 {L : Nat} {xs : Nat → Int32} {d x : Nat} {M : qxM} {st : List Value} {ls : qxL} : Rs L xs (d) 256 31 ls st M x = Rs L xs (d) 256 32 ls (.int (-1) :: st) M x := Rs_next c256_31 rfl
theorem c256_32 : qx_code 256 32 = some (32, .ireturn, 33, 0, 0, 0) := by decide +kernel
theorem s256_32 {L : Nat} {xs : Nat → Int32} {d x : Nat} {M : qxM} {ls : qxL} {z : Int32} : Rs L xs (d) 256 32 ls [.int z] M x = some (.inl (some (.int z)), M, x) := Rs_ret c256_32 rfl
theorem c256_33 : qx_code 256 33 = some (33, .iload_n 1, 34, 0, 0, 0) := by decide +kernel
theorem s256_33 {L : Nat} {xs : Nat → Int32} {d x : Nat} {M : qxM} {st : List Value} {a0 : Option Value} {z : Int32} : Rs L xs (d) 256 33 [a0, some (.int z)] st M x = Rs L xs (d) 256 34 [a0, some (.int z)] (.int z :: st) M x := Rs_next c256_33 rfl
theorem c256_34 : qx_code 256 34 = some (34, .tableswitch 56 4 7 #[30, 36, 42, 50], 64, 0, 0, 0) := by decide +kernel
theorem s256_34_3 {L : Nat} {xs : Nat → Int32} {d x : Nat} {M : qxM} {st : List Value} {ls : qxL} : Rs L xs (d) 256 34 ls (.int (nI 3) :: st) M x = Rs L xs (d) 256 90 ls st M x := Rs_next c256_34 rfl
theorem s256_34_4 {L : Nat} {xs : Nat → Int32} {d x : Nat} {M : qxM} {st : List Value} {ls : qxL} : Rs L xs (d) 256 34 ls (.int (nI 4) :: st) M x = Rs L xs (d) 256 64 ls st M x := Rs_next c256_34 rfl
theorem s256_34_5 {L : Nat} {xs : Nat → Int32} {d x : Nat} {M : qxM} {st : List Value} {ls : qxL} : Rs L xs (d) 256 34 ls (.int (nI 5) :: st) M x = Rs L xs (d) 256 70 ls st M x := Rs_next c256_34 rfl
theorem s256_34_6 {L : Nat} {xs : Nat → Int32} {d x : Nat} {M : qxM} {st : List Value} {ls : qxL} : Rs L xs (d) 256 34 ls (.int (nI 6) :: st) M x = Rs L xs (d) 256 76 ls st M x := Rs_next c256_34 rfl
theorem s256_34_7 {L : Nat} {xs : Nat → Int32} {d x : Nat} {M : qxM} {st : List Value} {ls : qxL} : Rs L xs (d) 256 34 ls (.int (nI 7) :: st) M x = Rs L xs (d) 256 84 ls st M x := Rs_next c256_34 rfl
theorem s256_34_8 {L : Nat} {xs : Nat → Int32} {d x : Nat} {M : qxM} {st : List Value} {ls : qxL} : Rs L xs (d) 256 34 ls (.int (nI 8) :: st) M x = Rs L xs (d) 256 90 ls st M x := Rs_next c256_34 rfl
theorem c256_64 : qx_code 256 64 = some (64, .aload_n 0, 65, 0, 0, 0) := by decide +kernel
theorem s256_64 {L : Nat} {xs : Nat → Int32} {d x : Nat} {M : qxM} {st : List Value} {a1 : Option Value} {z : Nat} : Rs L xs (d) 256 64 [some (.ref z), a1] st M x = Rs L xs (d) 256 65 [some (.ref z), a1] (.ref z :: st) M x := Rs_next c256_64 rfl
theorem c256_65 : qx_code 256 65 = some (65, .iconst 1, 66, 0, 0, 0) := by decide +kernel
theorem s256_65 {L : Nat} {xs : Nat → Int32} {d x : Nat} {M : qxM} {st : List Value} {ls : qxL} : Rs L xs (d) 256 65 ls st M x = Rs L xs (d) 256 66 ls (.int (nI 1) :: st) M x := Rs_next c256_65 rfl
theorem c256_66 : qx_code 256 66 = some (66, .invokevirtual 297, 69, 252, 2, 1842) := by decide +kernel
theorem s256_66 {L : Nat} {xs : Nat → Int32} {d x : Nat} {M : qxM} {st : List Value} {ls : qxL} {t : Nat} {z0 : Int32} (hk : qx_kd t = 18) (hs : st.length ≤ 4) : Rs L xs (d + 1) 256 66 ls (.int z0 :: .ref t :: st) M x = (Rs L xs d 252 0 [some (.ref t), some (.int z0), none, none] [] M 0).bind (qx_kn L xs (d + 1) 256 66 69 252 ls st x) := by
  have h1 : qx_act L xs (qx_rt 256) (66, .invokevirtual 297, 69, 252, 2, 1842) ls (.int z0 :: .ref t :: st) M = if 2 ≤ (.int z0 :: .ref t :: st).length ∧ st.length ≤ 4 then some (.inr (.inr (.inr (252, [.ref t, .int z0], st)))) else none := rfl
  rw [if_pos ⟨by simp [List.length_cons]; try omega, hs⟩] at h1
  have h2 := qx_kd_obj (k := 8) (by decide) hk
  exact Rs_call c256_66 h1 (by rw [show qx_args 252 [.ref t, .int z0] = decide (qx_sh t = some (.inl 8)) from rfl]; exact decide_eq_true h2)
theorem c256_69 : qx_code 256 69 = some (69, .ireturn, 70, 0, 0, 0) := by decide +kernel
theorem s256_69 {L : Nat} {xs : Nat → Int32} {d x : Nat} {M : qxM} {ls : qxL} {z : Int32} : Rs L xs (d) 256 69 ls [.int z] M x = some (.inl (some (.int z)), M, x) := Rs_ret c256_69 rfl
theorem c256_70 : qx_code 256 70 = some (70, .aload_n 0, 71, 0, 0, 0) := by decide +kernel
theorem s256_70 {L : Nat} {xs : Nat → Int32} {d x : Nat} {M : qxM} {st : List Value} {a1 : Option Value} {z : Nat} : Rs L xs (d) 256 70 [some (.ref z), a1] st M x = Rs L xs (d) 256 71 [some (.ref z), a1] (.ref z :: st) M x := Rs_next c256_70 rfl
theorem c256_71 : qx_code 256 71 = some (71, .iconst 2, 72, 0, 0, 0) := by decide +kernel
theorem s256_71 {L : Nat} {xs : Nat → Int32} {d x : Nat} {M : qxM} {st : List Value} {ls : qxL} : Rs L xs (d) 256 71 ls st M x = Rs L xs (d) 256 72 ls (.int (nI 2) :: st) M x := Rs_next c256_71 rfl
theorem c256_72 : qx_code 256 72 = some (72, .invokevirtual 297, 75, 252, 2, 1842) := by decide +kernel
theorem s256_72 {L : Nat} {xs : Nat → Int32} {d x : Nat} {M : qxM} {st : List Value} {ls : qxL} {t : Nat} {z0 : Int32} (hk : qx_kd t = 18) (hs : st.length ≤ 4) : Rs L xs (d + 1) 256 72 ls (.int z0 :: .ref t :: st) M x = (Rs L xs d 252 0 [some (.ref t), some (.int z0), none, none] [] M 0).bind (qx_kn L xs (d + 1) 256 72 75 252 ls st x) := by
  have h1 : qx_act L xs (qx_rt 256) (72, .invokevirtual 297, 75, 252, 2, 1842) ls (.int z0 :: .ref t :: st) M = if 2 ≤ (.int z0 :: .ref t :: st).length ∧ st.length ≤ 4 then some (.inr (.inr (.inr (252, [.ref t, .int z0], st)))) else none := rfl
  rw [if_pos ⟨by simp [List.length_cons]; try omega, hs⟩] at h1
  have h2 := qx_kd_obj (k := 8) (by decide) hk
  exact Rs_call c256_72 h1 (by rw [show qx_args 252 [.ref t, .int z0] = decide (qx_sh t = some (.inl 8)) from rfl]; exact decide_eq_true h2)
theorem c256_75 : qx_code 256 75 = some (75, .ireturn, 76, 0, 0, 0) := by decide +kernel
theorem s256_75 {L : Nat} {xs : Nat → Int32} {d x : Nat} {M : qxM} {ls : qxL} {z : Int32} : Rs L xs (d) 256 75 ls [.int z] M x = some (.inl (some (.int z)), M, x) := Rs_ret c256_75 rfl
theorem c256_76 : qx_code 256 76 = some (76, .aload_n 0, 77, 0, 0, 0) := by decide +kernel
theorem s256_76 {L : Nat} {xs : Nat → Int32} {d x : Nat} {M : qxM} {st : List Value} {a1 : Option Value} {z : Nat} : Rs L xs (d) 256 76 [some (.ref z), a1] st M x = Rs L xs (d) 256 77 [some (.ref z), a1] (.ref z :: st) M x := Rs_next c256_76 rfl
theorem c256_77 : qx_code 256 77 = some (77, .getfield 9, 80, 8, 1, 1546) := by decide +kernel
theorem s256_77 {L : Nat} {xs : Nat → Int32} {d x : Nat} {M : qxM} {st : List Value} {ls : qxL} {t : Nat} (hk : qx_kd t = 18) : Rs L xs (d) 256 77 ls (.ref t :: st) M x = Rs L xs (d) 256 80 ls (.ref (t + 1) :: st) M x := Rs_when (qx_kd_obj (k := 8) (by decide) hk) c256_77 rfl
theorem c256_80 : qx_code 256 80 = some (80, .bipush 40, 82, 0, 0, 0) := by decide +kernel
theorem s256_80 {L : Nat} {xs : Nat → Int32} {d x : Nat} {M : qxM} {st : List Value} {ls : qxL} : Rs L xs (d) 256 80 ls st M x = Rs L xs (d) 256 82 ls (.int (nI 40) :: st) M x := Rs_next c256_80 rfl
theorem c256_82 : qx_code 256 82 = some (82, .iaload, 83, 0, 0, 0) := by decide +kernel
theorem s256_82 {L : Nat} {xs : Nat → Int32} {d x : Nat} {M : qxM} {st : List Value} {ls : qxL} {t : Nat} {j : Int32} (hk : qx_kd t = 0) (hj : qx_ib j (qx_ln t) = true) : Rs L xs (d) 256 82 ls (.int j :: .ref t :: st) M x = Rs L xs (d) 256 83 ls (.int (M.1 t j.toNatClampNeg) :: st) M x := by
  have h1 := qx_kd_row (k := 0) (by decide) hk
  exact Rs_unless (qx_ib_not hj) c256_82 (by unfold qx_act; dsimp only; rw [h1]; rfl)
theorem c256_83 : qx_code 256 83 = some (83, .ireturn, 84, 0, 0, 0) := by decide +kernel
theorem s256_83 {L : Nat} {xs : Nat → Int32} {d x : Nat} {M : qxM} {ls : qxL} {z : Int32} : Rs L xs (d) 256 83 ls [.int z] M x = some (.inl (some (.int z)), M, x) := Rs_ret c256_83 rfl
theorem c256_84 : qx_code 256 84 = some (84, .aload_n 0, 85, 0, 0, 0) := by decide +kernel
theorem s256_84 {L : Nat} {xs : Nat → Int32} {d x : Nat} {M : qxM} {st : List Value} {a1 : Option Value} {z : Nat} : Rs L xs (d) 256 84 [some (.ref z), a1] st M x = Rs L xs (d) 256 85 [some (.ref z), a1] (.ref z :: st) M x := Rs_next c256_84 rfl
theorem c256_85 : qx_code 256 85 = some (85, .iconst 1, 86, 0, 0, 0) := by decide +kernel
theorem s256_85 {L : Nat} {xs : Nat → Int32} {d x : Nat} {M : qxM} {st : List Value} {ls : qxL} : Rs L xs (d) 256 85 ls st M x = Rs L xs (d) 256 86 ls (.int (nI 1) :: st) M x := Rs_next c256_85 rfl
theorem c256_86 : qx_code 256 86 = some (86, .invokevirtual 300, 89, 254, 2, 1846) := by decide +kernel
theorem s256_86 {L : Nat} {xs : Nat → Int32} {d x : Nat} {M : qxM} {st : List Value} {ls : qxL} {t : Nat} {z0 : Int32} (hk : qx_kd t = 18) (hs : st.length ≤ 4) : Rs L xs (d + 1) 256 86 ls (.int z0 :: .ref t :: st) M x = (Rs L xs d 254 0 [some (.ref t), some (.int z0), none, none] [] M 0).bind (qx_kn L xs (d + 1) 256 86 89 254 ls st x) := by
  have h1 : qx_act L xs (qx_rt 256) (86, .invokevirtual 300, 89, 254, 2, 1846) ls (.int z0 :: .ref t :: st) M = if 2 ≤ (.int z0 :: .ref t :: st).length ∧ st.length ≤ 4 then some (.inr (.inr (.inr (254, [.ref t, .int z0], st)))) else none := rfl
  rw [if_pos ⟨by simp [List.length_cons]; try omega, hs⟩] at h1
  have h2 := qx_kd_obj (k := 8) (by decide) hk
  exact Rs_call c256_86 h1 (by rw [show qx_args 254 [.ref t, .int z0] = decide (qx_sh t = some (.inl 8)) from rfl]; exact decide_eq_true h2)
theorem c256_89 : qx_code 256 89 = some (89, .ireturn, 90, 0, 0, 0) := by decide +kernel
theorem s256_89 {L : Nat} {xs : Nat → Int32} {d x : Nat} {M : qxM} {ls : qxL} {z : Int32} : Rs L xs (d) 256 89 ls [.int z] M x = some (.inl (some (.int z)), M, x) := Rs_ret c256_89 rfl
theorem c256_90 : qx_code 256 90 = some (90, .aload_n 0, 91, 0, 0, 0) := by decide +kernel
theorem s256_90 {L : Nat} {xs : Nat → Int32} {d x : Nat} {M : qxM} {st : List Value} {a1 : Option Value} {z : Nat} : Rs L xs (d) 256 90 [some (.ref z), a1] st M x = Rs L xs (d) 256 91 [some (.ref z), a1] (.ref z :: st) M x := Rs_next c256_90 rfl
theorem c256_91 : qx_code 256 91 = some (91, .getfield 9, 94, 8, 1, 1546) := by decide +kernel
theorem s256_91 {L : Nat} {xs : Nat → Int32} {d x : Nat} {M : qxM} {st : List Value} {ls : qxL} {t : Nat} (hk : qx_kd t = 18) : Rs L xs (d) 256 91 ls (.ref t :: st) M x = Rs L xs (d) 256 94 ls (.ref (t + 1) :: st) M x := Rs_when (qx_kd_obj (k := 8) (by decide) hk) c256_91 rfl
theorem c256_94 : qx_code 256 94 = some (94, .bipush 35, 96, 0, 0, 0) := by decide +kernel
theorem s256_94 {L : Nat} {xs : Nat → Int32} {d x : Nat} {M : qxM} {st : List Value} {ls : qxL} : Rs L xs (d) 256 94 ls st M x = Rs L xs (d) 256 96 ls (.int (nI 35) :: st) M x := Rs_next c256_94 rfl
theorem c256_96 : qx_code 256 96 = some (96, .iload_n 1, 97, 0, 0, 0) := by decide +kernel
theorem s256_96 {L : Nat} {xs : Nat → Int32} {d x : Nat} {M : qxM} {st : List Value} {a0 : Option Value} {z : Int32} : Rs L xs (d) 256 96 [a0, some (.int z)] st M x = Rs L xs (d) 256 97 [a0, some (.int z)] (.int z :: st) M x := Rs_next c256_96 rfl
theorem c256_97 : qx_code 256 97 = some (97, .iadd, 98, 0, 0, 0) := by decide +kernel
theorem s256_97 {L : Nat} {xs : Nat → Int32} {d x : Nat} {M : qxM} {st : List Value} {ls : qxL} {z y : Int32} : Rs L xs (d) 256 97 ls (.int y :: .int z :: st) M x = Rs L xs (d) 256 98 ls (.int (z + y) :: st) M x := Rs_next c256_97 rfl
theorem c256_98 : qx_code 256 98 = some (98, .iaload, 99, 0, 0, 0) := by decide +kernel
theorem s256_98 {L : Nat} {xs : Nat → Int32} {d x : Nat} {M : qxM} {st : List Value} {ls : qxL} {t : Nat} {j : Int32} (hk : qx_kd t = 0) (hj : qx_ib j (qx_ln t) = true) : Rs L xs (d) 256 98 ls (.int j :: .ref t :: st) M x = Rs L xs (d) 256 99 ls (.int (M.1 t j.toNatClampNeg) :: st) M x := by
  have h1 := qx_kd_row (k := 0) (by decide) hk
  exact Rs_unless (qx_ib_not hj) c256_98 (by unfold qx_act; dsimp only; rw [h1]; rfl)
theorem c256_99 : qx_code 256 99 = some (99, .ireturn, 100, 0, 0, 0) := by decide +kernel
theorem s256_99 {L : Nat} {xs : Nat → Int32} {d x : Nat} {M : qxM} {ls : qxL} {z : Int32} : Rs L xs (d) 256 99 ls [.int z] M x = some (.inl (some (.int z)), M, x) := Rs_ret c256_99 rfl
theorem c257_0 : qx_code 257 0 = some (0, .aload_n 0, 1, 0, 0, 0) := by decide +kernel
theorem s257_0 {L : Nat} {xs : Nat → Int32} {d x : Nat} {M : qxM} {st : List Value} {a1 a2 : Option Value} {z : Nat} : Rs L xs (d) 257 0 [some (.ref z), a1, a2] st M x = Rs L xs (d) 257 1 [some (.ref z), a1, a2] (.ref z :: st) M x := Rs_next c257_0 rfl
theorem c257_1 : qx_code 257 1 = some (1, .iload_n 1, 2, 0, 0, 0) := by decide +kernel
theorem s257_1 {L : Nat} {xs : Nat → Int32} {d x : Nat} {M : qxM} {st : List Value} {a0 a2 : Option Value} {z : Int32} : Rs L xs (d) 257 1 [a0, some (.int z), a2] st M x = Rs L xs (d) 257 2 [a0, some (.int z), a2] (.int z :: st) M x := Rs_next c257_1 rfl
theorem c257_2 : qx_code 257 2 = some (2, .invokevirtual 232, 5, 226, 2, 1819) := by decide +kernel
theorem s257_2 {L : Nat} {xs : Nat → Int32} {d x : Nat} {M : qxM} {st : List Value} {ls : qxL} {t : Nat} {z0 : Int32} (hk : qx_kd t = 18) (hs : st.length ≤ 4) : Rs L xs (d + 1) 257 2 ls (.int z0 :: .ref t :: st) M x = (Rs L xs d 226 0 [some (.ref t), some (.int z0)] [] M 0).bind (qx_kn L xs (d + 1) 257 2 5 226 ls st x) := by
  have h1 : qx_act L xs (qx_rt 257) (2, .invokevirtual 232, 5, 226, 2, 1819) ls (.int z0 :: .ref t :: st) M = if 2 ≤ (.int z0 :: .ref t :: st).length ∧ st.length ≤ 4 then some (.inr (.inr (.inr (226, [.ref t, .int z0], st)))) else none := rfl
  rw [if_pos ⟨by simp [List.length_cons]; try omega, hs⟩] at h1
  have h2 := qx_kd_obj (k := 8) (by decide) hk
  exact Rs_call c257_2 h1 (by rw [show qx_args 226 [.ref t, .int z0] = decide (qx_sh t = some (.inl 8)) from rfl]; exact decide_eq_true h2)
theorem c257_5 : qx_code 257 5 = some (5, .ifCond .eq 25, 8, 30, 0, 0) := by decide +kernel
theorem s257_5 {L : Nat} {xs : Nat → Int32} {d x : Nat} {M : qxM} {st : List Value} {ls : qxL} {z : Int32} : Rs L xs (d) 257 5 ls (.int z :: st) M x = if z = 0 then Rs L xs (d) 257 30 ls st M x else Rs L xs (d) 257 8 ls st M x := Rs_ite c257_5 rfl
theorem c257_8 : qx_code 257 8 = some (8, .aload_n 0, 9, 0, 0, 0) := by decide +kernel
theorem s257_8 {L : Nat} {xs : Nat → Int32} {d x : Nat} {M : qxM} {st : List Value} {a1 a2 : Option Value} {z : Nat} : Rs L xs (d) 257 8 [some (.ref z), a1, a2] st M x = Rs L xs (d) 257 9 [some (.ref z), a1, a2] (.ref z :: st) M x := Rs_next c257_8 rfl
theorem c257_9 : qx_code 257 9 = some (9, .invokevirtual 294, 12, 255, 1, 1838) := by decide +kernel
theorem s257_9 {L : Nat} {xs : Nat → Int32} {d x : Nat} {M : qxM} {st : List Value} {ls : qxL} {t : Nat} (hk : qx_kd t = 18) (hs : st.length ≤ 4) : Rs L xs (d + 1) 257 9 ls (.ref t :: st) M x = (Rs L xs d 255 0 [some (.ref t)] [] M 0).bind (qx_kn L xs (d + 1) 257 9 12 255 ls st x) := by
  have h1 : qx_act L xs (qx_rt 257) (9, .invokevirtual 294, 12, 255, 1, 1838) ls (.ref t :: st) M = if 1 ≤ (.ref t :: st).length ∧ st.length ≤ 4 then some (.inr (.inr (.inr (255, [.ref t], st)))) else none := rfl
  rw [if_pos ⟨by simp [List.length_cons]; try omega, hs⟩] at h1
  have h2 := qx_kd_obj (k := 8) (by decide) hk
  exact Rs_call c257_9 h1 (by rw [show qx_args 255 [.ref t] = decide (qx_sh t = some (.inl 8)) from rfl]; exact decide_eq_true h2)
theorem c257_12 : qx_code 257 12 = some (12, .ifCond .eq 14, 15, 26, 0, 0) := by decide +kernel
theorem s257_12 {L : Nat} {xs : Nat → Int32} {d x : Nat} {M : qxM} {st : List Value} {ls : qxL} {z : Int32} : Rs L xs (d) 257 12 ls (.int z :: st) M x = if z = 0 then Rs L xs (d) 257 26 ls st M x else Rs L xs (d) 257 15 ls st M x := Rs_ite c257_12 rfl
theorem c257_15 : qx_code 257 15 = some (15, .aload_n 0, 16, 0, 0, 0) := by decide +kernel
theorem s257_15 {L : Nat} {xs : Nat → Int32} {d x : Nat} {M : qxM} {st : List Value} {a1 a2 : Option Value} {z : Nat} : Rs L xs (d) 257 15 [some (.ref z), a1, a2] st M x = Rs L xs (d) 257 16 [some (.ref z), a1, a2] (.ref z :: st) M x := Rs_next c257_15 rfl
theorem c257_16 : qx_code 257 16 = some (16, .getfield 9, 19, 8, 1, 1546) := by decide +kernel
theorem s257_16 {L : Nat} {xs : Nat → Int32} {d x : Nat} {M : qxM} {st : List Value} {ls : qxL} {t : Nat} (hk : qx_kd t = 18) : Rs L xs (d) 257 16 ls (.ref t :: st) M x = Rs L xs (d) 257 19 ls (.ref (t + 1) :: st) M x := Rs_when (qx_kd_obj (k := 8) (by decide) hk) c257_16 rfl
theorem c257_19 : qx_code 257 19 = some (19, .iload_n 2, 20, 0, 0, 0) := by decide +kernel
theorem s257_19 {L : Nat} {xs : Nat → Int32} {d x : Nat} {M : qxM} {st : List Value} {a0 a1 : Option Value} {z : Int32} : Rs L xs (d) 257 19 [a0, a1, some (.int z)] st M x = Rs L xs (d) 257 20 [a0, a1, some (.int z)] (.int z :: st) M x := Rs_next c257_19 rfl
theorem c257_20 : qx_code 257 20 = some (20, .iload_n 1, 21, 0, 0, 0) := by decide +kernel
theorem s257_20 {L : Nat} {xs : Nat → Int32} {d x : Nat} {M : qxM} {st : List Value} {a0 a2 : Option Value} {z : Int32} : Rs L xs (d) 257 20 [a0, some (.int z), a2] st M x = Rs L xs (d) 257 21 [a0, some (.int z), a2] (.int z :: st) M x := Rs_next c257_20 rfl
theorem c257_21 : qx_code 257 21 = some (21, .iadd, 22, 0, 0, 0) := by decide +kernel
theorem s257_21 {L : Nat} {xs : Nat → Int32} {d x : Nat} {M : qxM} {st : List Value} {ls : qxL} {z y : Int32} : Rs L xs (d) 257 21 ls (.int y :: .int z :: st) M x = Rs L xs (d) 257 22 ls (.int (z + y) :: st) M x := Rs_next c257_21 rfl
theorem c257_22 : qx_code 257 22 = some (22, .iaload, 23, 0, 0, 0) := by decide +kernel
theorem s257_22 {L : Nat} {xs : Nat → Int32} {d x : Nat} {M : qxM} {st : List Value} {ls : qxL} {t : Nat} {j : Int32} (hk : qx_kd t = 0) (hj : qx_ib j (qx_ln t) = true) : Rs L xs (d) 257 22 ls (.int j :: .ref t :: st) M x = Rs L xs (d) 257 23 ls (.int (M.1 t j.toNatClampNeg) :: st) M x := by
  have h1 := qx_kd_row (k := 0) (by decide) hk
  exact Rs_unless (qx_ib_not hj) c257_22 (by unfold qx_act; dsimp only; rw [h1]; rfl)
theorem c257_23 : qx_code 257 23 = some (23, .goto 8, 26, 31, 0, 0) := by decide +kernel
theorem s257_23 {L : Nat} {xs : Nat → Int32} {d x : Nat} {M : qxM} {st : List Value} {ls : qxL} : Rs L xs (d) 257 23 ls st M x = Rs L xs (d) 257 31 ls st M x := Rs_next c257_23 rfl
theorem c257_26 : qx_code 257 26 = some (26, .iconst (-1), 27, 0, 0, 0) := by decide +kernel
theorem s257_26 {L : Nat} {xs : Nat → Int32} {d x : Nat} {M : qxM} {st : List Value} {ls : qxL} : Rs L xs (d) 257 26 ls st M x = Rs L xs (d) 257 27 ls (.int (-1) :: st) M x := Rs_next c257_26 rfl
theorem c257_27 : qx_code 257 27 = some (27, .goto 4, 30, 31, 0, 0) := by decide +kernel
theorem s257_27 {L : Nat} {xs : Nat → Int32} {d x : Nat} {M : qxM} {st : List Value} {ls : qxL} : Rs L xs (d) 257 27 ls st M x = Rs L xs (d) 257 31 ls st M x := Rs_next c257_27 rfl
theorem c257_30 : qx_code 257 30 = some (30, .iconst 0, 31, 0, 0, 0) := by decide +kernel
theorem s257_30 {L : Nat} {xs : Nat → Int32} {d x : Nat} {M : qxM} {st : List Value} {ls : qxL} : Rs L xs (d) 257 30 ls st M x = Rs L xs (d) 257 31 ls (.int (nI 0) :: st) M x := Rs_next c257_30 rfl
theorem c257_31 : qx_code 257 31 = some (31, .ireturn, 32, 0, 0, 0) := by decide +kernel
theorem s257_31 {L : Nat} {xs : Nat → Int32} {d x : Nat} {M : qxM} {ls : qxL} {z : Int32} : Rs L xs (d) 257 31 ls [.int z] M x = some (.inl (some (.int z)), M, x) := Rs_ret c257_31 rfl
theorem c258_0 : qx_code 258 0 = some (0, .aload_n 0, 1, 0, 0, 0) := by decide +kernel
theorem s258_0 {L : Nat} {xs : Nat → Int32} {d x : Nat} {M : qxM} {st : List Value} {a1 : Option Value} {z : Nat} : Rs L xs (d) 258 0 [some (.ref z), a1] st M x = Rs L xs (d) 258 1 [some (.ref z), a1] (.ref z :: st) M x := Rs_next c258_0 rfl
theorem c258_1 : qx_code 258 1 = some (1, .iload_n 1, 2, 0, 0, 0) := by decide +kernel
theorem s258_1 {L : Nat} {xs : Nat → Int32} {d x : Nat} {M : qxM} {st : List Value} {a0 : Option Value} {z : Int32} : Rs L xs (d) 258 1 [a0, some (.int z)] st M x = Rs L xs (d) 258 2 [a0, some (.int z)] (.int z :: st) M x := Rs_next c258_1 rfl
theorem c258_2 : qx_code 258 2 = some (2, .bipush 55, 4, 0, 0, 0) := by decide +kernel
theorem s258_2 {L : Nat} {xs : Nat → Int32} {d x : Nat} {M : qxM} {st : List Value} {ls : qxL} : Rs L xs (d) 258 2 ls st M x = Rs L xs (d) 258 4 ls (.int (nI 55) :: st) M x := Rs_next c258_2 rfl
theorem c258_4 : qx_code 258 4 = some (4, .invokevirtual 303, 7, 257, 3, 1858) := by decide +kernel
theorem s258_4 {L : Nat} {xs : Nat → Int32} {d x : Nat} {M : qxM} {st : List Value} {ls : qxL} {t : Nat} {z0 : Int32} {z1 : Int32} (hk : qx_kd t = 18) (hs : st.length ≤ 4) : Rs L xs (d + 1) 258 4 ls (.int z1 :: .int z0 :: .ref t :: st) M x = (Rs L xs d 257 0 [some (.ref t), some (.int z0), some (.int z1)] [] M 0).bind (qx_kn L xs (d + 1) 258 4 7 257 ls st x) := by
  have h1 : qx_act L xs (qx_rt 258) (4, .invokevirtual 303, 7, 257, 3, 1858) ls (.int z1 :: .int z0 :: .ref t :: st) M = if 3 ≤ (.int z1 :: .int z0 :: .ref t :: st).length ∧ st.length ≤ 4 then some (.inr (.inr (.inr (257, [.ref t, .int z0, .int z1], st)))) else none := rfl
  rw [if_pos ⟨by simp [List.length_cons]; try omega, hs⟩] at h1
  have h2 := qx_kd_obj (k := 8) (by decide) hk
  exact Rs_call c258_4 h1 (by rw [show qx_args 257 [.ref t, .int z0, .int z1] = decide (qx_sh t = some (.inl 8)) from rfl]; exact decide_eq_true h2)
theorem c258_7 : qx_code 258 7 = some (7, .ireturn, 8, 0, 0, 0) := by decide +kernel
theorem s258_7 {L : Nat} {xs : Nat → Int32} {d x : Nat} {M : qxM} {ls : qxL} {z : Int32} : Rs L xs (d) 258 7 ls [.int z] M x = some (.inl (some (.int z)), M, x) := Rs_ret c258_7 rfl
theorem c259_0 : qx_code 259 0 = some (0, .aload_n 0, 1, 0, 0, 0) := by decide +kernel
theorem s259_0 {L : Nat} {xs : Nat → Int32} {d x : Nat} {M : qxM} {st : List Value} {a1 : Option Value} {z : Nat} : Rs L xs (d) 259 0 [some (.ref z), a1] st M x = Rs L xs (d) 259 1 [some (.ref z), a1] (.ref z :: st) M x := Rs_next c259_0 rfl
theorem c259_1 : qx_code 259 1 = some (1, .iload_n 1, 2, 0, 0, 0) := by decide +kernel
theorem s259_1 {L : Nat} {xs : Nat → Int32} {d x : Nat} {M : qxM} {st : List Value} {a0 : Option Value} {z : Int32} : Rs L xs (d) 259 1 [a0, some (.int z)] st M x = Rs L xs (d) 259 2 [a0, some (.int z)] (.int z :: st) M x := Rs_next c259_1 rfl
theorem c259_2 : qx_code 259 2 = some (2, .invokevirtual 232, 5, 226, 2, 1819) := by decide +kernel
theorem s259_2 {L : Nat} {xs : Nat → Int32} {d x : Nat} {M : qxM} {st : List Value} {ls : qxL} {t : Nat} {z0 : Int32} (hk : qx_kd t = 18) (hs : st.length ≤ 4) : Rs L xs (d + 1) 259 2 ls (.int z0 :: .ref t :: st) M x = (Rs L xs d 226 0 [some (.ref t), some (.int z0)] [] M 0).bind (qx_kn L xs (d + 1) 259 2 5 226 ls st x) := by
  have h1 : qx_act L xs (qx_rt 259) (2, .invokevirtual 232, 5, 226, 2, 1819) ls (.int z0 :: .ref t :: st) M = if 2 ≤ (.int z0 :: .ref t :: st).length ∧ st.length ≤ 4 then some (.inr (.inr (.inr (226, [.ref t, .int z0], st)))) else none := rfl
  rw [if_pos ⟨by simp [List.length_cons]; try omega, hs⟩] at h1
  have h2 := qx_kd_obj (k := 8) (by decide) hk
  exact Rs_call c259_2 h1 (by rw [show qx_args 226 [.ref t, .int z0] = decide (qx_sh t = some (.inl 8)) from rfl]; exact decide_eq_true h2)
theorem c259_5 : qx_code 259 5 = some (5, .ifCond .eq 26, 8, 31, 0, 0) := by decide +kernel
theorem s259_5 {L : Nat} {xs : Nat → Int32} {d x : Nat} {M : qxM} {st : List Value} {ls : qxL} {z : Int32} : Rs L xs (d) 259 5 ls (.int z :: st) M x = if z = 0 then Rs L xs (d) 259 31 ls st M x else Rs L xs (d) 259 8 ls st M x := Rs_ite c259_5 rfl
theorem c259_8 : qx_code 259 8 = some (8, .aload_n 0, 9, 0, 0, 0) := by decide +kernel
theorem s259_8 {L : Nat} {xs : Nat → Int32} {d x : Nat} {M : qxM} {st : List Value} {a1 : Option Value} {z : Nat} : Rs L xs (d) 259 8 [some (.ref z), a1] st M x = Rs L xs (d) 259 9 [some (.ref z), a1] (.ref z :: st) M x := Rs_next c259_8 rfl
theorem c259_9 : qx_code 259 9 = some (9, .invokevirtual 294, 12, 255, 1, 1838) := by decide +kernel
theorem s259_9 {L : Nat} {xs : Nat → Int32} {d x : Nat} {M : qxM} {st : List Value} {ls : qxL} {t : Nat} (hk : qx_kd t = 18) (hs : st.length ≤ 4) : Rs L xs (d + 1) 259 9 ls (.ref t :: st) M x = (Rs L xs d 255 0 [some (.ref t)] [] M 0).bind (qx_kn L xs (d + 1) 259 9 12 255 ls st x) := by
  have h1 : qx_act L xs (qx_rt 259) (9, .invokevirtual 294, 12, 255, 1, 1838) ls (.ref t :: st) M = if 1 ≤ (.ref t :: st).length ∧ st.length ≤ 4 then some (.inr (.inr (.inr (255, [.ref t], st)))) else none := rfl
  rw [if_pos ⟨by simp [List.length_cons]; try omega, hs⟩] at h1
  have h2 := qx_kd_obj (k := 8) (by decide) hk
  exact Rs_call c259_9 h1 (by rw [show qx_args 255 [.ref t] = decide (qx_sh t = some (.inl 8)) from rfl]; exact decide_eq_true h2)
theorem c259_12 : qx_code 259 12 = some (12, .ifCond .eq 19, 15, 31, 0, 0) := by decide +kernel
theorem s259_12 {L : Nat} {xs : Nat → Int32} {d x : Nat} {M : qxM} {st : List Value} {ls : qxL} {z : Int32} : Rs L xs (d) 259 12 ls (.int z :: st) M x = if z = 0 then Rs L xs (d) 259 31 ls st M x else Rs L xs (d) 259 15 ls st M x := Rs_ite c259_12 rfl
theorem c259_15 : qx_code 259 15 = some (15, .aload_n 0, 16, 0, 0, 0) := by decide +kernel
theorem s259_15 {L : Nat} {xs : Nat → Int32} {d x : Nat} {M : qxM} {st : List Value} {a1 : Option Value} {z : Nat} : Rs L xs (d) 259 15 [some (.ref z), a1] st M x = Rs L xs (d) 259 16 [some (.ref z), a1] (.ref z :: st) M x := Rs_next c259_15 rfl
theorem c259_16 : qx_code 259 16 = some (16, .aload_n 0, 17, 0, 0, 0) := by decide +kernel
theorem s259_16 {L : Nat} {xs : Nat → Int32} {d x : Nat} {M : qxM} {st : List Value} {a1 : Option Value} {z : Nat} : Rs L xs (d) 259 16 [some (.ref z), a1] st M x = Rs L xs (d) 259 17 [some (.ref z), a1] (.ref z :: st) M x := Rs_next c259_16 rfl
theorem c259_17 : qx_code 259 17 = some (17, .getfield 9, 20, 8, 1, 1546) := by decide +kernel
theorem s259_17 {L : Nat} {xs : Nat → Int32} {d x : Nat} {M : qxM} {st : List Value} {ls : qxL} {t : Nat} (hk : qx_kd t = 18) : Rs L xs (d) 259 17 ls (.ref t :: st) M x = Rs L xs (d) 259 20 ls (.ref (t + 1) :: st) M x := Rs_when (qx_kd_obj (k := 8) (by decide) hk) c259_17 rfl
theorem c259_20 : qx_code 259 20 = some (20, .bipush 69, 22, 0, 0, 0) := by decide +kernel
theorem s259_20 {L : Nat} {xs : Nat → Int32} {d x : Nat} {M : qxM} {st : List Value} {ls : qxL} : Rs L xs (d) 259 20 ls st M x = Rs L xs (d) 259 22 ls (.int (nI 69) :: st) M x := Rs_next c259_20 rfl
theorem c259_22 : qx_code 259 22 = some (22, .iload_n 1, 23, 0, 0, 0) := by decide +kernel
theorem s259_22 {L : Nat} {xs : Nat → Int32} {d x : Nat} {M : qxM} {st : List Value} {a0 : Option Value} {z : Int32} : Rs L xs (d) 259 22 [a0, some (.int z)] st M x = Rs L xs (d) 259 23 [a0, some (.int z)] (.int z :: st) M x := Rs_next c259_22 rfl
theorem c259_23 : qx_code 259 23 = some (23, .iadd, 24, 0, 0, 0) := by decide +kernel
theorem s259_23 {L : Nat} {xs : Nat → Int32} {d x : Nat} {M : qxM} {st : List Value} {ls : qxL} {z y : Int32} : Rs L xs (d) 259 23 ls (.int y :: .int z :: st) M x = Rs L xs (d) 259 24 ls (.int (z + y) :: st) M x := Rs_next c259_23 rfl
theorem c259_24 : qx_code 259 24 = some (24, .iaload, 25, 0, 0, 0) := by decide +kernel
theorem s259_24 {L : Nat} {xs : Nat → Int32} {d x : Nat} {M : qxM} {st : List Value} {ls : qxL} {t : Nat} {j : Int32} (hk : qx_kd t = 0) (hj : qx_ib j (qx_ln t) = true) : Rs L xs (d) 259 24 ls (.int j :: .ref t :: st) M x = Rs L xs (d) 259 25 ls (.int (M.1 t j.toNatClampNeg) :: st) M x := by
  have h1 := qx_kd_row (k := 0) (by decide) hk
  exact Rs_unless (qx_ib_not hj) c259_24 (by unfold qx_act; dsimp only; rw [h1]; rfl)
theorem c259_25 : qx_code 259 25 = some (25, .invokevirtual 291, 28, 253, 2, 1850) := by decide +kernel
theorem s259_25 {L : Nat} {xs : Nat → Int32} {d x : Nat} {M : qxM} {st : List Value} {ls : qxL} {t : Nat} {z0 : Int32} (hk : qx_kd t = 18) (hs : st.length ≤ 4) : Rs L xs (d + 1) 259 25 ls (.int z0 :: .ref t :: st) M x = (Rs L xs d 253 0 [some (.ref t), some (.int z0), none, none] [] M 0).bind (qx_kn L xs (d + 1) 259 25 28 253 ls st x) := by
  have h1 : qx_act L xs (qx_rt 259) (25, .invokevirtual 291, 28, 253, 2, 1850) ls (.int z0 :: .ref t :: st) M = if 2 ≤ (.int z0 :: .ref t :: st).length ∧ st.length ≤ 4 then some (.inr (.inr (.inr (253, [.ref t, .int z0], st)))) else none := rfl
  rw [if_pos ⟨by simp [List.length_cons]; try omega, hs⟩] at h1
  have h2 := qx_kd_obj (k := 8) (by decide) hk
  exact Rs_call c259_25 h1 (by rw [show qx_args 253 [.ref t, .int z0] = decide (qx_sh t = some (.inl 8)) from rfl]; exact decide_eq_true h2)
theorem c259_28 : qx_code 259 28 = some (28, .goto 4, 31, 32, 0, 0) := by decide +kernel
theorem s259_28 {L : Nat} {xs : Nat → Int32} {d x : Nat} {M : qxM} {st : List Value} {ls : qxL} : Rs L xs (d) 259 28 ls st M x = Rs L xs (d) 259 32 ls st M x := Rs_next c259_28 rfl
theorem c259_31 : qx_code 259 31 = some (31, .iconst 0, 32, 0, 0, 0) := by decide +kernel
theorem s259_31 {L : Nat} {xs : Nat → Int32} {d x : Nat} {M : qxM} {st : List Value} {ls : qxL} : Rs L xs (d) 259 31 ls st M x = Rs L xs (d) 259 32 ls (.int (nI 0) :: st) M x := Rs_next c259_31 rfl
theorem c259_32 : qx_code 259 32 = some (32, .ireturn, 33, 0, 0, 0) := by decide +kernel
theorem s259_32 {L : Nat} {xs : Nat → Int32} {d x : Nat} {M : qxM} {ls : qxL} {z : Int32} : Rs L xs (d) 259 32 ls [.int z] M x = some (.inl (some (.int z)), M, x) := Rs_ret c259_32 rfl
theorem c260_0 : qx_code 260 0 = some (0, .aload_n 0, 1, 0, 0, 0) := by decide +kernel
theorem s260_0 {L : Nat} {xs : Nat → Int32} {d x : Nat} {M : qxM} {st : List Value} {a1 : Option Value} {z : Nat} : Rs L xs (d) 260 0 [some (.ref z), a1] st M x = Rs L xs (d) 260 1 [some (.ref z), a1] (.ref z :: st) M x := Rs_next c260_0 rfl
theorem c260_1 : qx_code 260 1 = some (1, .iload_n 1, 2, 0, 0, 0) := by decide +kernel
theorem s260_1 {L : Nat} {xs : Nat → Int32} {d x : Nat} {M : qxM} {st : List Value} {a0 : Option Value} {z : Int32} : Rs L xs (d) 260 1 [a0, some (.int z)] st M x = Rs L xs (d) 260 2 [a0, some (.int z)] (.int z :: st) M x := Rs_next c260_1 rfl
theorem c260_2 : qx_code 260 2 = some (2, .bipush 69, 4, 0, 0, 0) := by decide +kernel
theorem s260_2 {L : Nat} {xs : Nat → Int32} {d x : Nat} {M : qxM} {st : List Value} {ls : qxL} : Rs L xs (d) 260 2 ls st M x = Rs L xs (d) 260 4 ls (.int (nI 69) :: st) M x := Rs_next c260_2 rfl
theorem c260_4 : qx_code 260 4 = some (4, .invokevirtual 303, 7, 257, 3, 1858) := by decide +kernel
theorem s260_4 {L : Nat} {xs : Nat → Int32} {d x : Nat} {M : qxM} {st : List Value} {ls : qxL} {t : Nat} {z0 : Int32} {z1 : Int32} (hk : qx_kd t = 18) (hs : st.length ≤ 4) : Rs L xs (d + 1) 260 4 ls (.int z1 :: .int z0 :: .ref t :: st) M x = (Rs L xs d 257 0 [some (.ref t), some (.int z0), some (.int z1)] [] M 0).bind (qx_kn L xs (d + 1) 260 4 7 257 ls st x) := by
  have h1 : qx_act L xs (qx_rt 260) (4, .invokevirtual 303, 7, 257, 3, 1858) ls (.int z1 :: .int z0 :: .ref t :: st) M = if 3 ≤ (.int z1 :: .int z0 :: .ref t :: st).length ∧ st.length ≤ 4 then some (.inr (.inr (.inr (257, [.ref t, .int z0, .int z1], st)))) else none := rfl
  rw [if_pos ⟨by simp [List.length_cons]; try omega, hs⟩] at h1
  have h2 := qx_kd_obj (k := 8) (by decide) hk
  exact Rs_call c260_4 h1 (by rw [show qx_args 257 [.ref t, .int z0, .int z1] = decide (qx_sh t = some (.inl 8)) from rfl]; exact decide_eq_true h2)
theorem c260_7 : qx_code 260 7 = some (7, .ireturn, 8, 0, 0, 0) := by decide +kernel
theorem s260_7 {L : Nat} {xs : Nat → Int32} {d x : Nat} {M : qxM} {ls : qxL} {z : Int32} : Rs L xs (d) 260 7 ls [.int z] M x = some (.inl (some (.int z)), M, x) := Rs_ret c260_7 rfl
theorem c261_0 : qx_code 261 0 = some (0, .aload_n 0, 1, 0, 0, 0) := by decide +kernel
theorem s261_0 {L : Nat} {xs : Nat → Int32} {d x : Nat} {M : qxM} {st : List Value} {a1 : Option Value} {z : Nat} : Rs L xs (d) 261 0 [some (.ref z), a1] st M x = Rs L xs (d) 261 1 [some (.ref z), a1] (.ref z :: st) M x := Rs_next c261_0 rfl
theorem c261_1 : qx_code 261 1 = some (1, .iload_n 1, 2, 0, 0, 0) := by decide +kernel
theorem s261_1 {L : Nat} {xs : Nat → Int32} {d x : Nat} {M : qxM} {st : List Value} {a0 : Option Value} {z : Int32} : Rs L xs (d) 261 1 [a0, some (.int z)] st M x = Rs L xs (d) 261 2 [a0, some (.int z)] (.int z :: st) M x := Rs_next c261_1 rfl
theorem c261_2 : qx_code 261 2 = some (2, .bipush 83, 4, 0, 0, 0) := by decide +kernel
theorem s261_2 {L : Nat} {xs : Nat → Int32} {d x : Nat} {M : qxM} {st : List Value} {ls : qxL} : Rs L xs (d) 261 2 ls st M x = Rs L xs (d) 261 4 ls (.int (nI 83) :: st) M x := Rs_next c261_2 rfl
theorem c261_4 : qx_code 261 4 = some (4, .invokevirtual 303, 7, 257, 3, 1858) := by decide +kernel
theorem s261_4 {L : Nat} {xs : Nat → Int32} {d x : Nat} {M : qxM} {st : List Value} {ls : qxL} {t : Nat} {z0 : Int32} {z1 : Int32} (hk : qx_kd t = 18) (hs : st.length ≤ 4) : Rs L xs (d + 1) 261 4 ls (.int z1 :: .int z0 :: .ref t :: st) M x = (Rs L xs d 257 0 [some (.ref t), some (.int z0), some (.int z1)] [] M 0).bind (qx_kn L xs (d + 1) 261 4 7 257 ls st x) := by
  have h1 : qx_act L xs (qx_rt 261) (4, .invokevirtual 303, 7, 257, 3, 1858) ls (.int z1 :: .int z0 :: .ref t :: st) M = if 3 ≤ (.int z1 :: .int z0 :: .ref t :: st).length ∧ st.length ≤ 4 then some (.inr (.inr (.inr (257, [.ref t, .int z0, .int z1], st)))) else none := rfl
  rw [if_pos ⟨by simp [List.length_cons]; try omega, hs⟩] at h1
  have h2 := qx_kd_obj (k := 8) (by decide) hk
  exact Rs_call c261_4 h1 (by rw [show qx_args 257 [.ref t, .int z0, .int z1] = decide (qx_sh t = some (.inl 8)) from rfl]; exact decide_eq_true h2)
theorem c261_7 : qx_code 261 7 = some (7, .ireturn, 8, 0, 0, 0) := by decide +kernel
theorem s261_7 {L : Nat} {xs : Nat → Int32} {d x : Nat} {M : qxM} {ls : qxL} {z : Int32} : Rs L xs (d) 261 7 ls [.int z] M x = some (.inl (some (.int z)), M, x) := Rs_ret c261_7 rfl
theorem c262_0 : qx_code 262 0 = some (0, .aload_n 0, 1, 0, 0, 0) := by decide +kernel
theorem s262_0 {L : Nat} {xs : Nat → Int32} {d x : Nat} {M : qxM} {st : List Value} {a1 a2 : Option Value} {z : Nat} : Rs L xs (d) 262 0 [some (.ref z), a1, a2] st M x = Rs L xs (d) 262 1 [some (.ref z), a1, a2] (.ref z :: st) M x := Rs_next c262_0 rfl
theorem c262_1 : qx_code 262 1 = some (1, .iload_n 1, 2, 0, 0, 0) := by decide +kernel
theorem s262_1 {L : Nat} {xs : Nat → Int32} {d x : Nat} {M : qxM} {st : List Value} {a0 a2 : Option Value} {z : Int32} : Rs L xs (d) 262 1 [a0, some (.int z), a2] st M x = Rs L xs (d) 262 2 [a0, some (.int z), a2] (.int z :: st) M x := Rs_next c262_1 rfl
theorem c262_2 : qx_code 262 2 = some (2, .iload_n 2, 3, 0, 0, 0) := by decide +kernel
theorem s262_2 {L : Nat} {xs : Nat → Int32} {d x : Nat} {M : qxM} {st : List Value} {a0 a1 : Option Value} {z : Int32} : Rs L xs (d) 262 2 [a0, a1, some (.int z)] st M x = Rs L xs (d) 262 3 [a0, a1, some (.int z)] (.int z :: st) M x := Rs_next c262_2 rfl
theorem c262_3 : qx_code 262 3 = some (3, .ifCond .eq 8, 6, 11, 0, 0) := by decide +kernel
theorem s262_3 {L : Nat} {xs : Nat → Int32} {d x : Nat} {M : qxM} {st : List Value} {ls : qxL} {z : Int32} : Rs L xs (d) 262 3 ls (.int z :: st) M x = if z = 0 then Rs L xs (d) 262 11 ls st M x else Rs L xs (d) 262 6 ls st M x := Rs_ite c262_3 rfl
theorem c262_6 : qx_code 262 6 = some (6, .bipush 111, 8, 0, 0, 0) := by decide +kernel
theorem s262_6 {L : Nat} {xs : Nat → Int32} {d x : Nat} {M : qxM} {st : List Value} {ls : qxL} : Rs L xs (d) 262 6 ls st M x = Rs L xs (d) 262 8 ls (.int (nI 111) :: st) M x := Rs_next c262_6 rfl
theorem c262_8 : qx_code 262 8 = some (8, .goto 5, 11, 13, 0, 0) := by decide +kernel
theorem s262_8 {L : Nat} {xs : Nat → Int32} {d x : Nat} {M : qxM} {st : List Value} {ls : qxL} : Rs L xs (d) 262 8 ls st M x = Rs L xs (d) 262 13 ls st M x := Rs_next c262_8 rfl
theorem c262_11 : qx_code 262 11 = some (11, .bipush 97, 13, 0, 0, 0) := by decide +kernel
theorem s262_11 {L : Nat} {xs : Nat → Int32} {d x : Nat} {M : qxM} {st : List Value} {ls : qxL} : Rs L xs (d) 262 11 ls st M x = Rs L xs (d) 262 13 ls (.int (nI 97) :: st) M x := Rs_next c262_11 rfl
theorem c262_13 : qx_code 262 13 = some (13, .invokevirtual 303, 16, 257, 3, 1858) := by decide +kernel
theorem s262_13 {L : Nat} {xs : Nat → Int32} {d x : Nat} {M : qxM} {st : List Value} {ls : qxL} {t : Nat} {z0 : Int32} {z1 : Int32} (hk : qx_kd t = 18) (hs : st.length ≤ 4) : Rs L xs (d + 1) 262 13 ls (.int z1 :: .int z0 :: .ref t :: st) M x = (Rs L xs d 257 0 [some (.ref t), some (.int z0), some (.int z1)] [] M 0).bind (qx_kn L xs (d + 1) 262 13 16 257 ls st x) := by
  have h1 : qx_act L xs (qx_rt 262) (13, .invokevirtual 303, 16, 257, 3, 1858) ls (.int z1 :: .int z0 :: .ref t :: st) M = if 3 ≤ (.int z1 :: .int z0 :: .ref t :: st).length ∧ st.length ≤ 4 then some (.inr (.inr (.inr (257, [.ref t, .int z0, .int z1], st)))) else none := rfl
  rw [if_pos ⟨by simp [List.length_cons]; try omega, hs⟩] at h1
  have h2 := qx_kd_obj (k := 8) (by decide) hk
  exact Rs_call c262_13 h1 (by rw [show qx_args 257 [.ref t, .int z0, .int z1] = decide (qx_sh t = some (.inl 8)) from rfl]; exact decide_eq_true h2)
theorem c262_16 : qx_code 262 16 = some (16, .ireturn, 17, 0, 0, 0) := by decide +kernel
theorem s262_16 {L : Nat} {xs : Nat → Int32} {d x : Nat} {M : qxM} {ls : qxL} {z : Int32} : Rs L xs (d) 262 16 ls [.int z] M x = some (.inl (some (.int z)), M, x) := Rs_ret c262_16 rfl
theorem c263_0 : qx_code 263 0 = some (0, .aload_n 0, 1, 0, 0, 0) := by decide +kernel
theorem s263_0 {L : Nat} {xs : Nat → Int32} {d x : Nat} {M : qxM} {st : List Value} {z : Nat} : Rs L xs (d) 263 0 [some (.ref z)] st M x = Rs L xs (d) 263 1 [some (.ref z)] (.ref z :: st) M x := Rs_next c263_0 rfl
theorem c263_1 : qx_code 263 1 = some (1, .aload_n 0, 2, 0, 0, 0) := by decide +kernel
theorem s263_1 {L : Nat} {xs : Nat → Int32} {d x : Nat} {M : qxM} {st : List Value} {z : Nat} : Rs L xs (d) 263 1 [some (.ref z)] st M x = Rs L xs (d) 263 2 [some (.ref z)] (.ref z :: st) M x := Rs_next c263_1 rfl
theorem c263_2 : qx_code 263 2 = some (2, .getfield 187, 5, 8, 6, 1551) := by decide +kernel
theorem s263_2 {L : Nat} {xs : Nat → Int32} {d x : Nat} {M : qxM} {st : List Value} {ls : qxL} {t : Nat} (hk : qx_kd t = 18) : Rs L xs (d) 263 2 ls (.ref t :: st) M x = Rs L xs (d) 263 5 ls (.int (M.1 t 6) :: st) M x := Rs_when (qx_kd_obj (k := 8) (by decide) hk) c263_2 rfl
theorem c263_5 : qx_code 263 5 = some (5, .iconst 1, 6, 0, 0, 0) := by decide +kernel
theorem s263_5 {L : Nat} {xs : Nat → Int32} {d x : Nat} {M : qxM} {st : List Value} {ls : qxL} : Rs L xs (d) 263 5 ls st M x = Rs L xs (d) 263 6 ls (.int (nI 1) :: st) M x := Rs_next c263_5 rfl
theorem c263_6 : qx_code 263 6 = some (6, .iconst 1, 7, 0, 0, 0) := by decide +kernel
theorem s263_6 {L : Nat} {xs : Nat → Int32} {d x : Nat} {M : qxM} {st : List Value} {ls : qxL} : Rs L xs (d) 263 6 ls st M x = Rs L xs (d) 263 7 ls (.int (nI 1) :: st) M x := Rs_next c263_6 rfl
theorem c263_7 : qx_code 263 7 = some (7, .invokevirtual 49, 10, 180, 4, 1644) := by decide +kernel
theorem s263_7 {L : Nat} {xs : Nat → Int32} {d x : Nat} {M : qxM} {st : List Value} {ls : qxL} {t : Nat} {z0 : Int32} {z1 : Int32} {z2 : Int32} (hk : qx_kd t = 18) (hs : st.length ≤ 4) : Rs L xs (d + 1) 263 7 ls (.int z2 :: .int z1 :: .int z0 :: .ref t :: st) M x = (Rs L xs d 180 0 [some (.ref t), some (.int z0), some (.int z1), some (.int z2)] [] M 0).bind (qx_kn L xs (d + 1) 263 7 10 180 ls st x) := by
  have h1 : qx_act L xs (qx_rt 263) (7, .invokevirtual 49, 10, 180, 4, 1644) ls (.int z2 :: .int z1 :: .int z0 :: .ref t :: st) M = if 4 ≤ (.int z2 :: .int z1 :: .int z0 :: .ref t :: st).length ∧ st.length ≤ 4 then some (.inr (.inr (.inr (180, [.ref t, .int z0, .int z1, .int z2], st)))) else none := rfl
  rw [if_pos ⟨by simp [List.length_cons]; try omega, hs⟩] at h1
  have h2 := qx_kd_obj (k := 8) (by decide) hk
  exact Rs_call c263_7 h1 (by rw [show qx_args 180 [.ref t, .int z0, .int z1, .int z2] = decide (qx_sh t = some (.inl 8)) from rfl]; exact decide_eq_true h2)
theorem c263_10 : qx_code 263 10 = some (10, .ireturn, 11, 0, 0, 0) := by decide +kernel
theorem s263_10 {L : Nat} {xs : Nat → Int32} {d x : Nat} {M : qxM} {ls : qxL} {z : Int32} (h01 : z = 0 ∨ z = 1) : Rs L xs (d) 263 10 ls [.int z] M x = some (.inl (some (.int z)), M, x) := Rs_retw h01 c263_10 rfl
theorem c264_0 : qx_code 264 0 = some (0, .aload_n 0, 1, 0, 0, 0) := by decide +kernel
theorem s264_0 {L : Nat} {xs : Nat → Int32} {d x : Nat} {M : qxM} {st : List Value} {a1 : Option Value} {z : Nat} : Rs L xs (d) 264 0 [some (.ref z), a1] st M x = Rs L xs (d) 264 1 [some (.ref z), a1] (.ref z :: st) M x := Rs_next c264_0 rfl
theorem c264_1 : qx_code 264 1 = some (1, .invokevirtual 306, 4, 263, 1, 1882) := by decide +kernel
theorem s264_1 {L : Nat} {xs : Nat → Int32} {d x : Nat} {M : qxM} {st : List Value} {ls : qxL} {t : Nat} (hk : qx_kd t = 18) (hs : st.length ≤ 4) : Rs L xs (d + 1) 264 1 ls (.ref t :: st) M x = (Rs L xs d 263 0 [some (.ref t)] [] M 0).bind (qx_kn L xs (d + 1) 264 1 4 263 ls st x) := by
  have h1 : qx_act L xs (qx_rt 264) (1, .invokevirtual 306, 4, 263, 1, 1882) ls (.ref t :: st) M = if 1 ≤ (.ref t :: st).length ∧ st.length ≤ 4 then some (.inr (.inr (.inr (263, [.ref t], st)))) else none := rfl
  rw [if_pos ⟨by simp [List.length_cons]; try omega, hs⟩] at h1
  have h2 := qx_kd_obj (k := 8) (by decide) hk
  exact Rs_call c264_1 h1 (by rw [show qx_args 263 [.ref t] = decide (qx_sh t = some (.inl 8)) from rfl]; exact decide_eq_true h2)
theorem c264_4 : qx_code 264 4 = some (4, .ifCond .ne 5, 7, 9, 0, 0) := by decide +kernel
theorem s264_4 {L : Nat} {xs : Nat → Int32} {d x : Nat} {M : qxM} {st : List Value} {ls : qxL} {z : Int32} : Rs L xs (d) 264 4 ls (.int z :: st) M x = if z = 0 then Rs L xs (d) 264 7 ls st M x else Rs L xs (d) 264 9 ls st M x := Rs_ite c264_4 rfl
theorem c264_7 : qx_code 264 7 = some (7, .iconst 0, 8, 0, 0, 0) := by decide +kernel
theorem s264_7 {L : Nat} {xs : Nat → Int32} {d x : Nat} {M : qxM} {st : List Value} {ls : qxL} : Rs L xs (d) 264 7 ls st M x = Rs L xs (d) 264 8 ls (.int (nI 0) :: st) M x := Rs_next c264_7 rfl
theorem c264_8 : qx_code 264 8 = some (8, .ireturn, 9, 0, 0, 0) := by decide +kernel
theorem s264_8 {L : Nat} {xs : Nat → Int32} {d x : Nat} {M : qxM} {ls : qxL} {z : Int32} : Rs L xs (d) 264 8 ls [.int z] M x = some (.inl (some (.int z)), M, x) := Rs_ret c264_8 rfl
theorem c264_9 : qx_code 264 9 = some (9, .aload_n 0, 10, 0, 0, 0) := by decide +kernel
theorem s264_9 {L : Nat} {xs : Nat → Int32} {d x : Nat} {M : qxM} {st : List Value} {a1 : Option Value} {z : Nat} : Rs L xs (d) 264 9 [some (.ref z), a1] st M x = Rs L xs (d) 264 10 [some (.ref z), a1] (.ref z :: st) M x := Rs_next c264_9 rfl
theorem c264_10 : qx_code 264 10 = some (10, .invokevirtual 294, 13, 255, 1, 1838) := by decide +kernel
theorem s264_10 {L : Nat} {xs : Nat → Int32} {d x : Nat} {M : qxM} {st : List Value} {ls : qxL} {t : Nat} (hk : qx_kd t = 18) (hs : st.length ≤ 4) : Rs L xs (d + 1) 264 10 ls (.ref t :: st) M x = (Rs L xs d 255 0 [some (.ref t)] [] M 0).bind (qx_kn L xs (d + 1) 264 10 13 255 ls st x) := by
  have h1 : qx_act L xs (qx_rt 264) (10, .invokevirtual 294, 13, 255, 1, 1838) ls (.ref t :: st) M = if 1 ≤ (.ref t :: st).length ∧ st.length ≤ 4 then some (.inr (.inr (.inr (255, [.ref t], st)))) else none := rfl
  rw [if_pos ⟨by simp [List.length_cons]; try omega, hs⟩] at h1
  have h2 := qx_kd_obj (k := 8) (by decide) hk
  exact Rs_call c264_10 h1 (by rw [show qx_args 255 [.ref t] = decide (qx_sh t = some (.inl 8)) from rfl]; exact decide_eq_true h2)
theorem c264_13 : qx_code 264 13 = some (13, .ifCond .eq 32, 16, 45, 0, 0) := by decide +kernel
theorem s264_13 {L : Nat} {xs : Nat → Int32} {d x : Nat} {M : qxM} {st : List Value} {ls : qxL} {z : Int32} : Rs L xs (d) 264 13 ls (.int z :: st) M x = if z = 0 then Rs L xs (d) 264 45 ls st M x else Rs L xs (d) 264 16 ls st M x := Rs_ite c264_13 rfl
theorem c264_16 : qx_code 264 16 = some (16, .iload_n 1, 17, 0, 0, 0) := by decide +kernel
theorem s264_16 {L : Nat} {xs : Nat → Int32} {d x : Nat} {M : qxM} {st : List Value} {a0 : Option Value} {z : Int32} : Rs L xs (d) 264 16 [a0, some (.int z)] st M x = Rs L xs (d) 264 17 [a0, some (.int z)] (.int z :: st) M x := Rs_next c264_16 rfl
theorem c264_17 : qx_code 264 17 = some (17, .iconst 0, 18, 0, 0, 0) := by decide +kernel
theorem s264_17 {L : Nat} {xs : Nat → Int32} {d x : Nat} {M : qxM} {st : List Value} {ls : qxL} : Rs L xs (d) 264 17 ls st M x = Rs L xs (d) 264 18 ls (.int (nI 0) :: st) M x := Rs_next c264_17 rfl
theorem c264_18 : qx_code 264 18 = some (18, .aload_n 0, 19, 0, 0, 0) := by decide +kernel
theorem s264_18 {L : Nat} {xs : Nat → Int32} {d x : Nat} {M : qxM} {st : List Value} {a1 : Option Value} {z : Nat} : Rs L xs (d) 264 18 [some (.ref z), a1] st M x = Rs L xs (d) 264 19 [some (.ref z), a1] (.ref z :: st) M x := Rs_next c264_18 rfl
theorem c264_19 : qx_code 264 19 = some (19, .getfield 9, 22, 8, 1, 1546) := by decide +kernel
theorem s264_19 {L : Nat} {xs : Nat → Int32} {d x : Nat} {M : qxM} {st : List Value} {ls : qxL} {t : Nat} (hk : qx_kd t = 18) : Rs L xs (d) 264 19 ls (.ref t :: st) M x = Rs L xs (d) 264 22 ls (.ref (t + 1) :: st) M x := Rs_when (qx_kd_obj (k := 8) (by decide) hk) c264_19 rfl
theorem c264_22 : qx_code 264 22 = some (22, .bipush 40, 24, 0, 0, 0) := by decide +kernel
theorem s264_22 {L : Nat} {xs : Nat → Int32} {d x : Nat} {M : qxM} {st : List Value} {ls : qxL} : Rs L xs (d) 264 22 ls st M x = Rs L xs (d) 264 24 ls (.int (nI 40) :: st) M x := Rs_next c264_22 rfl
theorem c264_24 : qx_code 264 24 = some (24, .iaload, 25, 0, 0, 0) := by decide +kernel
theorem s264_24 {L : Nat} {xs : Nat → Int32} {d x : Nat} {M : qxM} {st : List Value} {ls : qxL} {t : Nat} {j : Int32} (hk : qx_kd t = 0) (hj : qx_ib j (qx_ln t) = true) : Rs L xs (d) 264 24 ls (.int j :: .ref t :: st) M x = Rs L xs (d) 264 25 ls (.int (M.1 t j.toNatClampNeg) :: st) M x := by
  have h1 := qx_kd_row (k := 0) (by decide) hk
  exact Rs_unless (qx_ib_not hj) c264_24 (by unfold qx_act; dsimp only; rw [h1]; rfl)
theorem c264_25 : qx_code 264 25 = some (25, .iconst 1, 26, 0, 0, 0) := by decide +kernel
theorem s264_25 {L : Nat} {xs : Nat → Int32} {d x : Nat} {M : qxM} {st : List Value} {ls : qxL} : Rs L xs (d) 264 25 ls st M x = Rs L xs (d) 264 26 ls (.int (nI 1) :: st) M x := Rs_next c264_25 rfl
theorem c264_26 : qx_code 264 26 = some (26, .isub, 27, 0, 0, 0) := by decide +kernel
theorem s264_26 {L : Nat} {xs : Nat → Int32} {d x : Nat} {M : qxM} {st : List Value} {ls : qxL} {z y : Int32} : Rs L xs (d) 264 26 ls (.int y :: .int z :: st) M x = Rs L xs (d) 264 27 ls (.int (z - y) :: st) M x := Rs_next c264_26 rfl
theorem c264_27 : qx_code 264 27 = some (27, .invokestatic 69, 30, 178, 3, 1641) := by decide +kernel
theorem s264_27 {L : Nat} {xs : Nat → Int32} {d x : Nat} {M : qxM} {st : List Value} {ls : qxL} {z0 : Int32} {z1 : Int32} {z2 : Int32} (hs : st.length ≤ 4) : Rs L xs (d + 1) 264 27 ls (.int z2 :: .int z1 :: .int z0 :: st) M x = (Rs L xs d 178 0 [some (.int z0), some (.int z1), some (.int z2)] [] M 0).bind (qx_kn L xs (d + 1) 264 27 30 178 ls st x) := by
  have h1 : qx_act L xs (qx_rt 264) (27, .invokestatic 69, 30, 178, 3, 1641) ls (.int z2 :: .int z1 :: .int z0 :: st) M = if 3 ≤ (.int z2 :: .int z1 :: .int z0 :: st).length ∧ st.length ≤ 4 then some (.inr (.inr (.inr (178, [.int z0, .int z1, .int z2], st)))) else none := rfl
  rw [if_pos ⟨by simp [List.length_cons]; try omega, hs⟩] at h1
  exact Rs_call c264_27 h1 rfl
theorem c264_30 : qx_code 264 30 = some (30, .ifCond .eq 15, 33, 45, 0, 0) := by decide +kernel
theorem s264_30 {L : Nat} {xs : Nat → Int32} {d x : Nat} {M : qxM} {st : List Value} {ls : qxL} {z : Int32} : Rs L xs (d) 264 30 ls (.int z :: st) M x = if z = 0 then Rs L xs (d) 264 45 ls st M x else Rs L xs (d) 264 33 ls st M x := Rs_ite c264_30 rfl
theorem c264_33 : qx_code 264 33 = some (33, .aload_n 0, 34, 0, 0, 0) := by decide +kernel
theorem s264_33 {L : Nat} {xs : Nat → Int32} {d x : Nat} {M : qxM} {st : List Value} {a1 : Option Value} {z : Nat} : Rs L xs (d) 264 33 [some (.ref z), a1] st M x = Rs L xs (d) 264 34 [some (.ref z), a1] (.ref z :: st) M x := Rs_next c264_33 rfl
theorem c264_34 : qx_code 264 34 = some (34, .getfield 9, 37, 8, 1, 1546) := by decide +kernel
theorem s264_34 {L : Nat} {xs : Nat → Int32} {d x : Nat} {M : qxM} {st : List Value} {ls : qxL} {t : Nat} (hk : qx_kd t = 18) : Rs L xs (d) 264 34 ls (.ref t :: st) M x = Rs L xs (d) 264 37 ls (.ref (t + 1) :: st) M x := Rs_when (qx_kd_obj (k := 8) (by decide) hk) c264_34 rfl
theorem c264_37 : qx_code 264 37 = some (37, .bipush 41, 39, 0, 0, 0) := by decide +kernel
theorem s264_37 {L : Nat} {xs : Nat → Int32} {d x : Nat} {M : qxM} {st : List Value} {ls : qxL} : Rs L xs (d) 264 37 ls st M x = Rs L xs (d) 264 39 ls (.int (nI 41) :: st) M x := Rs_next c264_37 rfl
theorem c264_39 : qx_code 264 39 = some (39, .iload_n 1, 40, 0, 0, 0) := by decide +kernel
theorem s264_39 {L : Nat} {xs : Nat → Int32} {d x : Nat} {M : qxM} {st : List Value} {a0 : Option Value} {z : Int32} : Rs L xs (d) 264 39 [a0, some (.int z)] st M x = Rs L xs (d) 264 40 [a0, some (.int z)] (.int z :: st) M x := Rs_next c264_39 rfl
theorem c264_40 : qx_code 264 40 = some (40, .iadd, 41, 0, 0, 0) := by decide +kernel
theorem s264_40 {L : Nat} {xs : Nat → Int32} {d x : Nat} {M : qxM} {st : List Value} {ls : qxL} {z y : Int32} : Rs L xs (d) 264 40 ls (.int y :: .int z :: st) M x = Rs L xs (d) 264 41 ls (.int (z + y) :: st) M x := Rs_next c264_40 rfl
theorem c264_41 : qx_code 264 41 = some (41, .iaload, 42, 0, 0, 0) := by decide +kernel
theorem s264_41 {L : Nat} {xs : Nat → Int32} {d x : Nat} {M : qxM} {st : List Value} {ls : qxL} {t : Nat} {j : Int32} (hk : qx_kd t = 0) (hj : qx_ib j (qx_ln t) = true) : Rs L xs (d) 264 41 ls (.int j :: .ref t :: st) M x = Rs L xs (d) 264 42 ls (.int (M.1 t j.toNatClampNeg) :: st) M x := by
  have h1 := qx_kd_row (k := 0) (by decide) hk
  exact Rs_unless (qx_ib_not hj) c264_41 (by unfold qx_act; dsimp only; rw [h1]; rfl)
theorem c264_42 : qx_code 264 42 = some (42, .goto 4, 45, 46, 0, 0) := by decide +kernel
theorem s264_42 {L : Nat} {xs : Nat → Int32} {d x : Nat} {M : qxM} {st : List Value} {ls : qxL} : Rs L xs (d) 264 42 ls st M x = Rs L xs (d) 264 46 ls st M x := Rs_next c264_42 rfl
theorem c264_45 : qx_code 264 45 = some (45, .iconst (-1), 46, 0, 0, 0) := by decide +kernel
theorem s264_45 {L : Nat} {xs : Nat → Int32} {d x : Nat} {M : qxM} {st : List Value} {ls : qxL} : Rs L xs (d) 264 45 ls st M x = Rs L xs (d) 264 46 ls (.int (-1) :: st) M x := Rs_next c264_45 rfl
theorem c264_46 : qx_code 264 46 = some (46, .ireturn, 47, 0, 0, 0) := by decide +kernel
theorem s264_46 {L : Nat} {xs : Nat → Int32} {d x : Nat} {M : qxM} {ls : qxL} {z : Int32} : Rs L xs (d) 264 46 ls [.int z] M x = some (.inl (some (.int z)), M, x) := Rs_ret c264_46 rfl
theorem c265_0 : qx_code 265 0 = some (0, .aload_n 0, 1, 0, 0, 0) := by decide +kernel
theorem s265_0 {L : Nat} {xs : Nat → Int32} {d x : Nat} {M : qxM} {st : List Value} {a1 : Option Value} {z : Nat} : Rs L xs (d) 265 0 [some (.ref z), a1] st M x = Rs L xs (d) 265 1 [some (.ref z), a1] (.ref z :: st) M x := Rs_next c265_0 rfl
theorem c265_1 : qx_code 265 1 = some (1, .invokevirtual 306, 4, 263, 1, 1882) := by decide +kernel
theorem s265_1 {L : Nat} {xs : Nat → Int32} {d x : Nat} {M : qxM} {st : List Value} {ls : qxL} {t : Nat} (hk : qx_kd t = 18) (hs : st.length ≤ 4) : Rs L xs (d + 1) 265 1 ls (.ref t :: st) M x = (Rs L xs d 263 0 [some (.ref t)] [] M 0).bind (qx_kn L xs (d + 1) 265 1 4 263 ls st x) := by
  have h1 : qx_act L xs (qx_rt 265) (1, .invokevirtual 306, 4, 263, 1, 1882) ls (.ref t :: st) M = if 1 ≤ (.ref t :: st).length ∧ st.length ≤ 4 then some (.inr (.inr (.inr (263, [.ref t], st)))) else none := rfl
  rw [if_pos ⟨by simp [List.length_cons]; try omega, hs⟩] at h1
  have h2 := qx_kd_obj (k := 8) (by decide) hk
  exact Rs_call c265_1 h1 (by rw [show qx_args 263 [.ref t] = decide (qx_sh t = some (.inl 8)) from rfl]; exact decide_eq_true h2)
theorem c265_4 : qx_code 265 4 = some (4, .ifCond .ne 5, 7, 9, 0, 0) := by decide +kernel
theorem s265_4 {L : Nat} {xs : Nat → Int32} {d x : Nat} {M : qxM} {st : List Value} {ls : qxL} {z : Int32} : Rs L xs (d) 265 4 ls (.int z :: st) M x = if z = 0 then Rs L xs (d) 265 7 ls st M x else Rs L xs (d) 265 9 ls st M x := Rs_ite c265_4 rfl
theorem c265_7 : qx_code 265 7 = some (7, .iconst 0, 8, 0, 0, 0) := by decide +kernel
theorem s265_7 {L : Nat} {xs : Nat → Int32} {d x : Nat} {M : qxM} {st : List Value} {ls : qxL} : Rs L xs (d) 265 7 ls st M x = Rs L xs (d) 265 8 ls (.int (nI 0) :: st) M x := Rs_next c265_7 rfl
theorem c265_8 : qx_code 265 8 = some (8, .ireturn, 9, 0, 0, 0) := by decide +kernel
theorem s265_8 {L : Nat} {xs : Nat → Int32} {d x : Nat} {M : qxM} {ls : qxL} {z : Int32} : Rs L xs (d) 265 8 ls [.int z] M x = some (.inl (some (.int z)), M, x) := Rs_ret c265_8 rfl
theorem c265_9 : qx_code 265 9 = some (9, .aload_n 0, 10, 0, 0, 0) := by decide +kernel
theorem s265_9 {L : Nat} {xs : Nat → Int32} {d x : Nat} {M : qxM} {st : List Value} {a1 : Option Value} {z : Nat} : Rs L xs (d) 265 9 [some (.ref z), a1] st M x = Rs L xs (d) 265 10 [some (.ref z), a1] (.ref z :: st) M x := Rs_next c265_9 rfl
theorem c265_10 : qx_code 265 10 = some (10, .invokevirtual 284, 13, 250, 1, 1890) := by decide +kernel
theorem s265_10 {L : Nat} {xs : Nat → Int32} {d x : Nat} {M : qxM} {st : List Value} {ls : qxL} {t : Nat} (hk : qx_kd t = 18) (hs : st.length ≤ 4) : Rs L xs (d + 1) 265 10 ls (.ref t :: st) M x = (Rs L xs d 250 0 [some (.ref t)] [] M 0).bind (qx_kn L xs (d + 1) 265 10 13 250 ls st x) := by
  have h1 : qx_act L xs (qx_rt 265) (10, .invokevirtual 284, 13, 250, 1, 1890) ls (.ref t :: st) M = if 1 ≤ (.ref t :: st).length ∧ st.length ≤ 4 then some (.inr (.inr (.inr (250, [.ref t], st)))) else none := rfl
  rw [if_pos ⟨by simp [List.length_cons]; try omega, hs⟩] at h1
  have h2 := qx_kd_obj (k := 8) (by decide) hk
  exact Rs_call c265_10 h1 (by rw [show qx_args 250 [.ref t] = decide (qx_sh t = some (.inl 8)) from rfl]; exact decide_eq_true h2)
theorem c265_13 : qx_code 265 13 = some (13, .ifCond .ne 5, 16, 18, 0, 0) := by decide +kernel
theorem s265_13 {L : Nat} {xs : Nat → Int32} {d x : Nat} {M : qxM} {st : List Value} {ls : qxL} {z : Int32} : Rs L xs (d) 265 13 ls (.int z :: st) M x = if z = 0 then Rs L xs (d) 265 16 ls st M x else Rs L xs (d) 265 18 ls st M x := Rs_ite c265_13 rfl
theorem c265_16 : qx_code 265 16 = some (16, .iconst (-1), 17, 0, 0, 0) := by decide +kernel
theorem s265_16 {L : Nat} {xs : Nat → Int32} {d x : Nat} {M : qxM} {st : List Value} {ls : qxL} : Rs L xs (d) 265 16 ls st M x = Rs L xs (d) 265 17 ls (.int (-1) :: st) M x := Rs_next c265_16 rfl
theorem c265_17 : qx_code 265 17 = some (17, .ireturn, 18, 0, 0, 0) := by decide +kernel
theorem s265_17 {L : Nat} {xs : Nat → Int32} {d x : Nat} {M : qxM} {ls : qxL} {z : Int32} : Rs L xs (d) 265 17 ls [.int z] M x = some (.inl (some (.int z)), M, x) := Rs_ret c265_17 rfl
theorem c265_18 : qx_code 265 18 = some (18, .aload_n 0, 19, 0, 0, 0) := by decide +kernel
theorem s265_18 {L : Nat} {xs : Nat → Int32} {d x : Nat} {M : qxM} {st : List Value} {a1 : Option Value} {z : Nat} : Rs L xs (d) 265 18 [some (.ref z), a1] st M x = Rs L xs (d) 265 19 [some (.ref z), a1] (.ref z :: st) M x := Rs_next c265_18 rfl
theorem c265_19 : qx_code 265 19 = some (19, .invokevirtual 269, 22, 240, 1, 1894) := by decide +kernel
theorem s265_19 {L : Nat} {xs : Nat → Int32} {d x : Nat} {M : qxM} {st : List Value} {ls : qxL} {t : Nat} (hk : qx_kd t = 18) (hs : st.length ≤ 4) : Rs L xs (d + 1) 265 19 ls (.ref t :: st) M x = (Rs L xs d 240 0 [some (.ref t), none] [] M 0).bind (qx_kn L xs (d + 1) 265 19 22 240 ls st x) := by
  have h1 : qx_act L xs (qx_rt 265) (19, .invokevirtual 269, 22, 240, 1, 1894) ls (.ref t :: st) M = if 1 ≤ (.ref t :: st).length ∧ st.length ≤ 4 then some (.inr (.inr (.inr (240, [.ref t], st)))) else none := rfl
  rw [if_pos ⟨by simp [List.length_cons]; try omega, hs⟩] at h1
  have h2 := qx_kd_obj (k := 8) (by decide) hk
  exact Rs_call c265_19 h1 (by rw [show qx_args 240 [.ref t] = decide (qx_sh t = some (.inl 8)) from rfl]; exact decide_eq_true h2)
theorem c265_22 : qx_code 265 22 = some (22, .istore_n 1, 23, 0, 0, 0) := by decide +kernel
theorem s265_22i {L : Nat} {xs : Nat → Int32} {d x : Nat} {M : qxM} {st : List Value} {a1 : Option Value} {z : Int32} {y : Int32} : Rs L xs (d) 265 22 [some (.int y), a1] (.int z :: st) M x = Rs L xs (d) 265 23 [some (.int y), some (.int z)] st M x := Rs_next c265_22 rfl
theorem s265_22r {L : Nat} {xs : Nat → Int32} {d x : Nat} {M : qxM} {st : List Value} {a1 : Option Value} {z : Int32} {y : Nat} : Rs L xs (d) 265 22 [some (.ref y), a1] (.int z :: st) M x = Rs L xs (d) 265 23 [some (.ref y), some (.int z)] st M x := Rs_next c265_22 rfl
theorem s265_22n {L : Nat} {xs : Nat → Int32} {d x : Nat} {M : qxM} {st : List Value} {a1 : Option Value} {z : Int32} : Rs L xs (d) 265 22 [none, a1] (.int z :: st) M x = Rs L xs (d) 265 23 [none, some (.int z)] st M x := Rs_next c265_22 rfl
theorem c265_23 : qx_code 265 23 = some (23, .bipush 100, 25, 0, 0, 0) := by decide +kernel
theorem s265_23 {L : Nat} {xs : Nat → Int32} {d x : Nat} {M : qxM} {st : List Value} {ls : qxL} : Rs L xs (d) 265 23 ls st M x = Rs L xs (d) 265 25 ls (.int (nI 100) :: st) M x := Rs_next c265_23 rfl
theorem c265_25 : qx_code 265 25 = some (25, .aload_n 0, 26, 0, 0, 0) := by decide +kernel
theorem s265_25 {L : Nat} {xs : Nat → Int32} {d x : Nat} {M : qxM} {st : List Value} {a1 : Option Value} {z : Nat} : Rs L xs (d) 265 25 [some (.ref z), a1] st M x = Rs L xs (d) 265 26 [some (.ref z), a1] (.ref z :: st) M x := Rs_next c265_25 rfl
theorem c265_26 : qx_code 265 26 = some (26, .getfield 9, 29, 8, 1, 1546) := by decide +kernel
theorem s265_26 {L : Nat} {xs : Nat → Int32} {d x : Nat} {M : qxM} {st : List Value} {ls : qxL} {t : Nat} (hk : qx_kd t = 18) : Rs L xs (d) 265 26 ls (.ref t :: st) M x = Rs L xs (d) 265 29 ls (.ref (t + 1) :: st) M x := Rs_when (qx_kd_obj (k := 8) (by decide) hk) c265_26 rfl
theorem c265_29 : qx_code 265 29 = some (29, .bipush 41, 31, 0, 0, 0) := by decide +kernel
theorem s265_29 {L : Nat} {xs : Nat → Int32} {d x : Nat} {M : qxM} {st : List Value} {ls : qxL} : Rs L xs (d) 265 29 ls st M x = Rs L xs (d) 265 31 ls (.int (nI 41) :: st) M x := Rs_next c265_29 rfl
theorem c265_31 : qx_code 265 31 = some (31, .iaload, 32, 0, 0, 0) := by decide +kernel
theorem s265_31 {L : Nat} {xs : Nat → Int32} {d x : Nat} {M : qxM} {st : List Value} {ls : qxL} {t : Nat} {j : Int32} (hk : qx_kd t = 0) (hj : qx_ib j (qx_ln t) = true) : Rs L xs (d) 265 31 ls (.int j :: .ref t :: st) M x = Rs L xs (d) 265 32 ls (.int (M.1 t j.toNatClampNeg) :: st) M x := by
  have h1 := qx_kd_row (k := 0) (by decide) hk
  exact Rs_unless (qx_ib_not hj) c265_31 (by unfold qx_act; dsimp only; rw [h1]; rfl)
theorem c265_32 : qx_code 265 32 = some (32, .imul, 33, 0, 0, 0) := by decide +kernel
theorem s265_32 {L : Nat} {xs : Nat → Int32} {d x : Nat} {M : qxM} {st : List Value} {ls : qxL} {z y : Int32} : Rs L xs (d) 265 32 ls (.int y :: .int z :: st) M x = Rs L xs (d) 265 33 ls (.int (z * y) :: st) M x := Rs_next c265_32 rfl
theorem c265_33 : qx_code 265 33 = some (33, .iload_n 1, 34, 0, 0, 0) := by decide +kernel
theorem s265_33 {L : Nat} {xs : Nat → Int32} {d x : Nat} {M : qxM} {st : List Value} {a0 : Option Value} {z : Int32} : Rs L xs (d) 265 33 [a0, some (.int z)] st M x = Rs L xs (d) 265 34 [a0, some (.int z)] (.int z :: st) M x := Rs_next c265_33 rfl
theorem c265_34 : qx_code 265 34 = some (34, .iconst (-1), 35, 0, 0, 0) := by decide +kernel
theorem s265_34 {L : Nat} {xs : Nat → Int32} {d x : Nat} {M : qxM} {st : List Value} {ls : qxL} : Rs L xs (d) 265 34 ls st M x = Rs L xs (d) 265 35 ls (.int (-1) :: st) M x := Rs_next c265_34 rfl
theorem c265_35 : qx_code 265 35 = some (35, .if_icmp .ne 8, 38, 43, 0, 0) := by decide +kernel
theorem s265_35 {L : Nat} {xs : Nat → Int32} {d x : Nat} {M : qxM} {st : List Value} {ls : qxL} {z y : Int32} : Rs L xs (d) 265 35 ls (.int y :: .int z :: st) M x = if z = y then Rs L xs (d) 265 38 ls st M x else Rs L xs (d) 265 43 ls st M x := Rs_ite c265_35 rfl
theorem c265_38 : qx_code 265 38 = some (38, .bipush 99, 40, 0, 0, 0) := by decide +kernel
theorem s265_38 {L : Nat} {xs : Nat → Int32} {d x : Nat} {M : qxM} {st : List Value} {ls : qxL} : Rs L xs (d) 265 38 ls st M x = Rs L xs (d) 265 40 ls (.int (nI 99) :: st) M x := Rs_next c265_38 rfl
theorem c265_40 : qx_code 265 40 = some (40, .goto 4, 43, 44, 0, 0) := by decide +kernel
theorem s265_40 {L : Nat} {xs : Nat → Int32} {d x : Nat} {M : qxM} {st : List Value} {ls : qxL} : Rs L xs (d) 265 40 ls st M x = Rs L xs (d) 265 44 ls st M x := Rs_next c265_40 rfl
theorem c265_43 : qx_code 265 43 = some (43, .iload_n 1, 44, 0, 0, 0) := by decide +kernel
theorem s265_43 {L : Nat} {xs : Nat → Int32} {d x : Nat} {M : qxM} {st : List Value} {a0 : Option Value} {z : Int32} : Rs L xs (d) 265 43 [a0, some (.int z)] st M x = Rs L xs (d) 265 44 [a0, some (.int z)] (.int z :: st) M x := Rs_next c265_43 rfl
theorem c265_44 : qx_code 265 44 = some (44, .iadd, 45, 0, 0, 0) := by decide +kernel
theorem s265_44 {L : Nat} {xs : Nat → Int32} {d x : Nat} {M : qxM} {st : List Value} {ls : qxL} {z y : Int32} : Rs L xs (d) 265 44 ls (.int y :: .int z :: st) M x = Rs L xs (d) 265 45 ls (.int (z + y) :: st) M x := Rs_next c265_44 rfl
theorem c265_45 : qx_code 265 45 = some (45, .ireturn, 46, 0, 0, 0) := by decide +kernel
theorem s265_45 {L : Nat} {xs : Nat → Int32} {d x : Nat} {M : qxM} {ls : qxL} {z : Int32} : Rs L xs (d) 265 45 ls [.int z] M x = some (.inl (some (.int z)), M, x) := Rs_ret c265_45 rfl
theorem c266_0 : qx_code 266 0 = some (0, .aload_n 0, 1, 0, 0, 0) := by decide +kernel
theorem s266_0 {L : Nat} {xs : Nat → Int32} {d x : Nat} {M : qxM} {st : List Value} {a1 : Option Value} {z : Nat} : Rs L xs (d) 266 0 [some (.ref z), a1] st M x = Rs L xs (d) 266 1 [some (.ref z), a1] (.ref z :: st) M x := Rs_next c266_0 rfl
theorem c266_1 : qx_code 266 1 = some (1, .invokevirtual 284, 4, 250, 1, 1890) := by decide +kernel
theorem s266_1 {L : Nat} {xs : Nat → Int32} {d x : Nat} {M : qxM} {st : List Value} {ls : qxL} {t : Nat} (hk : qx_kd t = 18) (hs : st.length ≤ 4) : Rs L xs (d + 1) 266 1 ls (.ref t :: st) M x = (Rs L xs d 250 0 [some (.ref t)] [] M 0).bind (qx_kn L xs (d + 1) 266 1 4 250 ls st x) := by
  have h1 : qx_act L xs (qx_rt 266) (1, .invokevirtual 284, 4, 250, 1, 1890) ls (.ref t :: st) M = if 1 ≤ (.ref t :: st).length ∧ st.length ≤ 4 then some (.inr (.inr (.inr (250, [.ref t], st)))) else none := rfl
  rw [if_pos ⟨by simp [List.length_cons]; try omega, hs⟩] at h1
  have h2 := qx_kd_obj (k := 8) (by decide) hk
  exact Rs_call c266_1 h1 (by rw [show qx_args 250 [.ref t] = decide (qx_sh t = some (.inl 8)) from rfl]; exact decide_eq_true h2)
theorem c266_4 : qx_code 266 4 = some (4, .ifCond .ne 14, 7, 18, 0, 0) := by decide +kernel
theorem s266_4 {L : Nat} {xs : Nat → Int32} {d x : Nat} {M : qxM} {st : List Value} {ls : qxL} {z : Int32} : Rs L xs (d) 266 4 ls (.int z :: st) M x = if z = 0 then Rs L xs (d) 266 7 ls st M x else Rs L xs (d) 266 18 ls st M x := Rs_ite c266_4 rfl
theorem c266_7 : qx_code 266 7 = some (7, .aload_n 0, 8, 0, 0, 0) := by decide +kernel
theorem s266_7 {L : Nat} {xs : Nat → Int32} {d x : Nat} {M : qxM} {st : List Value} {a1 : Option Value} {z : Nat} : Rs L xs (d) 266 7 [some (.ref z), a1] st M x = Rs L xs (d) 266 8 [some (.ref z), a1] (.ref z :: st) M x := Rs_next c266_7 rfl
theorem c266_8 : qx_code 266 8 = some (8, .getfield 9, 11, 8, 1, 1546) := by decide +kernel
theorem s266_8 {L : Nat} {xs : Nat → Int32} {d x : Nat} {M : qxM} {st : List Value} {ls : qxL} {t : Nat} (hk : qx_kd t = 18) : Rs L xs (d) 266 8 ls (.ref t :: st) M x = Rs L xs (d) 266 11 ls (.ref (t + 1) :: st) M x := Rs_when (qx_kd_obj (k := 8) (by decide) hk) c266_8 rfl
theorem c266_11 : qx_code 266 11 = some (11, .bipush 35, 13, 0, 0, 0) := by decide +kernel
theorem s266_11 {L : Nat} {xs : Nat → Int32} {d x : Nat} {M : qxM} {st : List Value} {ls : qxL} : Rs L xs (d) 266 11 ls st M x = Rs L xs (d) 266 13 ls (.int (nI 35) :: st) M x := Rs_next c266_11 rfl
theorem c266_13 : qx_code 266 13 = some (13, .iaload, 14, 0, 0, 0) := by decide +kernel
theorem s266_13 {L : Nat} {xs : Nat → Int32} {d x : Nat} {M : qxM} {st : List Value} {ls : qxL} {t : Nat} {j : Int32} (hk : qx_kd t = 0) (hj : qx_ib j (qx_ln t) = true) : Rs L xs (d) 266 13 ls (.int j :: .ref t :: st) M x = Rs L xs (d) 266 14 ls (.int (M.1 t j.toNatClampNeg) :: st) M x := by
  have h1 := qx_kd_row (k := 0) (by decide) hk
  exact Rs_unless (qx_ib_not hj) c266_13 (by unfold qx_act; dsimp only; rw [h1]; rfl)
theorem c266_14 : qx_code 266 14 = some (14, .iconst 3, 15, 0, 0, 0) := by decide +kernel
theorem s266_14 {L : Nat} {xs : Nat → Int32} {d x : Nat} {M : qxM} {st : List Value} {ls : qxL} : Rs L xs (d) 266 14 ls st M x = Rs L xs (d) 266 15 ls (.int (nI 3) :: st) M x := Rs_next c266_14 rfl
theorem c266_15 : qx_code 266 15 = some (15, .if_icmp .ne 28, 18, 43, 0, 0) := by decide +kernel
theorem s266_15 {L : Nat} {xs : Nat → Int32} {d x : Nat} {M : qxM} {st : List Value} {ls : qxL} {z y : Int32} : Rs L xs (d) 266 15 ls (.int y :: .int z :: st) M x = if z = y then Rs L xs (d) 266 18 ls st M x else Rs L xs (d) 266 43 ls st M x := Rs_ite c266_15 rfl
theorem c266_18 : qx_code 266 18 = some (18, .aload_n 0, 19, 0, 0, 0) := by decide +kernel
theorem s266_18 {L : Nat} {xs : Nat → Int32} {d x : Nat} {M : qxM} {st : List Value} {a1 : Option Value} {z : Nat} : Rs L xs (d) 266 18 [some (.ref z), a1] st M x = Rs L xs (d) 266 19 [some (.ref z), a1] (.ref z :: st) M x := Rs_next c266_18 rfl
theorem c266_19 : qx_code 266 19 = some (19, .getfield 9, 22, 8, 1, 1546) := by decide +kernel
theorem s266_19 {L : Nat} {xs : Nat → Int32} {d x : Nat} {M : qxM} {st : List Value} {ls : qxL} {t : Nat} (hk : qx_kd t = 18) : Rs L xs (d) 266 19 ls (.ref t :: st) M x = Rs L xs (d) 266 22 ls (.ref (t + 1) :: st) M x := Rs_when (qx_kd_obj (k := 8) (by decide) hk) c266_19 rfl
theorem c266_22 : qx_code 266 22 = some (22, .bipush 55, 24, 0, 0, 0) := by decide +kernel
theorem s266_22 {L : Nat} {xs : Nat → Int32} {d x : Nat} {M : qxM} {st : List Value} {ls : qxL} : Rs L xs (d) 266 22 ls st M x = Rs L xs (d) 266 24 ls (.int (nI 55) :: st) M x := Rs_next c266_22 rfl
theorem c266_24 : qx_code 266 24 = some (24, .iload_n 1, 25, 0, 0, 0) := by decide +kernel
theorem s266_24 {L : Nat} {xs : Nat → Int32} {d x : Nat} {M : qxM} {st : List Value} {a0 : Option Value} {z : Int32} : Rs L xs (d) 266 24 [a0, some (.int z)] st M x = Rs L xs (d) 266 25 [a0, some (.int z)] (.int z :: st) M x := Rs_next c266_24 rfl
theorem c266_25 : qx_code 266 25 = some (25, .iadd, 26, 0, 0, 0) := by decide +kernel
theorem s266_25 {L : Nat} {xs : Nat → Int32} {d x : Nat} {M : qxM} {st : List Value} {ls : qxL} {z y : Int32} : Rs L xs (d) 266 25 ls (.int y :: .int z :: st) M x = Rs L xs (d) 266 26 ls (.int (z + y) :: st) M x := Rs_next c266_25 rfl
theorem c266_26 : qx_code 266 26 = some (26, .iaload, 27, 0, 0, 0) := by decide +kernel
theorem s266_26 {L : Nat} {xs : Nat → Int32} {d x : Nat} {M : qxM} {st : List Value} {ls : qxL} {t : Nat} {j : Int32} (hk : qx_kd t = 0) (hj : qx_ib j (qx_ln t) = true) : Rs L xs (d) 266 26 ls (.int j :: .ref t :: st) M x = Rs L xs (d) 266 27 ls (.int (M.1 t j.toNatClampNeg) :: st) M x := by
  have h1 := qx_kd_row (k := 0) (by decide) hk
  exact Rs_unless (qx_ib_not hj) c266_26 (by unfold qx_act; dsimp only; rw [h1]; rfl)
theorem c266_27 : qx_code 266 27 = some (27, .iconst 1, 28, 0, 0, 0) := by decide +kernel
theorem s266_27 {L : Nat} {xs : Nat → Int32} {d x : Nat} {M : qxM} {st : List Value} {ls : qxL} : Rs L xs (d) 266 27 ls st M x = Rs L xs (d) 266 28 ls (.int (nI 1) :: st) M x := Rs_next c266_27 rfl
theorem c266_28 : qx_code 266 28 = some (28, .if_icmp .ne 15, 31, 43, 0, 0) := by decide +kernel
theorem s266_28 {L : Nat} {xs : Nat → Int32} {d x : Nat} {M : qxM} {st : List Value} {ls : qxL} {z y : Int32} : Rs L xs (d) 266 28 ls (.int y :: .int z :: st) M x = if z = y then Rs L xs (d) 266 31 ls st M x else Rs L xs (d) 266 43 ls st M x := Rs_ite c266_28 rfl
theorem c266_31 : qx_code 266 31 = some (31, .aload_n 0, 32, 0, 0, 0) := by decide +kernel
theorem s266_31 {L : Nat} {xs : Nat → Int32} {d x : Nat} {M : qxM} {st : List Value} {a1 : Option Value} {z : Nat} : Rs L xs (d) 266 31 [some (.ref z), a1] st M x = Rs L xs (d) 266 32 [some (.ref z), a1] (.ref z :: st) M x := Rs_next c266_31 rfl
theorem c266_32 : qx_code 266 32 = some (32, .getfield 9, 35, 8, 1, 1546) := by decide +kernel
theorem s266_32 {L : Nat} {xs : Nat → Int32} {d x : Nat} {M : qxM} {st : List Value} {ls : qxL} {t : Nat} (hk : qx_kd t = 18) : Rs L xs (d) 266 32 ls (.ref t :: st) M x = Rs L xs (d) 266 35 ls (.ref (t + 1) :: st) M x := Rs_when (qx_kd_obj (k := 8) (by decide) hk) c266_32 rfl
theorem c266_35 : qx_code 266 35 = some (35, .bipush 125, 37, 0, 0, 0) := by decide +kernel
theorem s266_35 {L : Nat} {xs : Nat → Int32} {d x : Nat} {M : qxM} {st : List Value} {ls : qxL} : Rs L xs (d) 266 35 ls st M x = Rs L xs (d) 266 37 ls (.int (nI 125) :: st) M x := Rs_next c266_35 rfl
theorem c266_37 : qx_code 266 37 = some (37, .iload_n 1, 38, 0, 0, 0) := by decide +kernel
theorem s266_37 {L : Nat} {xs : Nat → Int32} {d x : Nat} {M : qxM} {st : List Value} {a0 : Option Value} {z : Int32} : Rs L xs (d) 266 37 [a0, some (.int z)] st M x = Rs L xs (d) 266 38 [a0, some (.int z)] (.int z :: st) M x := Rs_next c266_37 rfl
theorem c266_38 : qx_code 266 38 = some (38, .iadd, 39, 0, 0, 0) := by decide +kernel
theorem s266_38 {L : Nat} {xs : Nat → Int32} {d x : Nat} {M : qxM} {st : List Value} {ls : qxL} {z y : Int32} : Rs L xs (d) 266 38 ls (.int y :: .int z :: st) M x = Rs L xs (d) 266 39 ls (.int (z + y) :: st) M x := Rs_next c266_38 rfl
theorem c266_39 : qx_code 266 39 = some (39, .iaload, 40, 0, 0, 0) := by decide +kernel
theorem s266_39 {L : Nat} {xs : Nat → Int32} {d x : Nat} {M : qxM} {st : List Value} {ls : qxL} {t : Nat} {j : Int32} (hk : qx_kd t = 0) (hj : qx_ib j (qx_ln t) = true) : Rs L xs (d) 266 39 ls (.int j :: .ref t :: st) M x = Rs L xs (d) 266 40 ls (.int (M.1 t j.toNatClampNeg) :: st) M x := by
  have h1 := qx_kd_row (k := 0) (by decide) hk
  exact Rs_unless (qx_ib_not hj) c266_39 (by unfold qx_act; dsimp only; rw [h1]; rfl)
theorem c266_40 : qx_code 266 40 = some (40, .goto 4, 43, 44, 0, 0) := by decide +kernel
theorem s266_40 {L : Nat} {xs : Nat → Int32} {d x : Nat} {M : qxM} {st : List Value} {ls : qxL} : Rs L xs (d) 266 40 ls st M x = Rs L xs (d) 266 44 ls st M x := Rs_next c266_40 rfl
theorem c266_43 : qx_code 266 43 = some (43, .iconst 0, 44, 0, 0, 0) := by decide +kernel
theorem s266_43 {L : Nat} {xs : Nat → Int32} {d x : Nat} {M : qxM} {st : List Value} {ls : qxL} : Rs L xs (d) 266 43 ls st M x = Rs L xs (d) 266 44 ls (.int (nI 0) :: st) M x := Rs_next c266_43 rfl
theorem c266_44 : qx_code 266 44 = some (44, .ireturn, 45, 0, 0, 0) := by decide +kernel
theorem s266_44 {L : Nat} {xs : Nat → Int32} {d x : Nat} {M : qxM} {ls : qxL} {z : Int32} : Rs L xs (d) 266 44 ls [.int z] M x = some (.inl (some (.int z)), M, x) := Rs_ret c266_44 rfl
theorem c267_0 : qx_code 267 0 = some (0, .aload_n 0, 1, 0, 0, 0) := by decide +kernel
theorem s267_0 {L : Nat} {xs : Nat → Int32} {d x : Nat} {M : qxM} {st : List Value} {a1 : Option Value} {z : Nat} : Rs L xs (d) 267 0 [some (.ref z), a1] st M x = Rs L xs (d) 267 1 [some (.ref z), a1] (.ref z :: st) M x := Rs_next c267_0 rfl
theorem c267_1 : qx_code 267 1 = some (1, .iload_n 1, 2, 0, 0, 0) := by decide +kernel
theorem s267_1 {L : Nat} {xs : Nat → Int32} {d x : Nat} {M : qxM} {st : List Value} {a0 : Option Value} {z : Int32} : Rs L xs (d) 267 1 [a0, some (.int z)] st M x = Rs L xs (d) 267 2 [a0, some (.int z)] (.int z :: st) M x := Rs_next c267_1 rfl
theorem c267_2 : qx_code 267 2 = some (2, .invokevirtual 232, 5, 226, 2, 1819) := by decide +kernel
theorem s267_2 {L : Nat} {xs : Nat → Int32} {d x : Nat} {M : qxM} {st : List Value} {ls : qxL} {t : Nat} {z0 : Int32} (hk : qx_kd t = 18) (hs : st.length ≤ 4) : Rs L xs (d + 1) 267 2 ls (.int z0 :: .ref t :: st) M x = (Rs L xs d 226 0 [some (.ref t), some (.int z0)] [] M 0).bind (qx_kn L xs (d + 1) 267 2 5 226 ls st x) := by
  have h1 : qx_act L xs (qx_rt 267) (2, .invokevirtual 232, 5, 226, 2, 1819) ls (.int z0 :: .ref t :: st) M = if 2 ≤ (.int z0 :: .ref t :: st).length ∧ st.length ≤ 4 then some (.inr (.inr (.inr (226, [.ref t, .int z0], st)))) else none := rfl
  rw [if_pos ⟨by simp [List.length_cons]; try omega, hs⟩] at h1
  have h2 := qx_kd_obj (k := 8) (by decide) hk
  exact Rs_call c267_2 h1 (by rw [show qx_args 226 [.ref t, .int z0] = decide (qx_sh t = some (.inl 8)) from rfl]; exact decide_eq_true h2)
theorem c267_5 : qx_code 267 5 = some (5, .ifCond .eq 11, 8, 16, 0, 0) := by decide +kernel
theorem s267_5 {L : Nat} {xs : Nat → Int32} {d x : Nat} {M : qxM} {st : List Value} {ls : qxL} {z : Int32} : Rs L xs (d) 267 5 ls (.int z :: st) M x = if z = 0 then Rs L xs (d) 267 16 ls st M x else Rs L xs (d) 267 8 ls st M x := Rs_ite c267_5 rfl
theorem c267_8 : qx_code 267 8 = some (8, .aload_n 0, 9, 0, 0, 0) := by decide +kernel
theorem s267_8 {L : Nat} {xs : Nat → Int32} {d x : Nat} {M : qxM} {st : List Value} {a1 : Option Value} {z : Nat} : Rs L xs (d) 267 8 [some (.ref z), a1] st M x = Rs L xs (d) 267 9 [some (.ref z), a1] (.ref z :: st) M x := Rs_next c267_8 rfl
theorem c267_9 : qx_code 267 9 = some (9, .iload_n 1, 10, 0, 0, 0) := by decide +kernel
theorem s267_9 {L : Nat} {xs : Nat → Int32} {d x : Nat} {M : qxM} {st : List Value} {a0 : Option Value} {z : Int32} : Rs L xs (d) 267 9 [a0, some (.int z)] st M x = Rs L xs (d) 267 10 [a0, some (.int z)] (.int z :: st) M x := Rs_next c267_9 rfl
theorem c267_10 : qx_code 267 10 = some (10, .invokevirtual 309, 13, 266, 2, 1902) := by decide +kernel
theorem s267_10 {L : Nat} {xs : Nat → Int32} {d x : Nat} {M : qxM} {st : List Value} {ls : qxL} {t : Nat} {z0 : Int32} (hk : qx_kd t = 18) (hs : st.length ≤ 4) : Rs L xs (d + 1) 267 10 ls (.int z0 :: .ref t :: st) M x = (Rs L xs d 266 0 [some (.ref t), some (.int z0)] [] M 0).bind (qx_kn L xs (d + 1) 267 10 13 266 ls st x) := by
  have h1 : qx_act L xs (qx_rt 267) (10, .invokevirtual 309, 13, 266, 2, 1902) ls (.int z0 :: .ref t :: st) M = if 2 ≤ (.int z0 :: .ref t :: st).length ∧ st.length ≤ 4 then some (.inr (.inr (.inr (266, [.ref t, .int z0], st)))) else none := rfl
  rw [if_pos ⟨by simp [List.length_cons]; try omega, hs⟩] at h1
  have h2 := qx_kd_obj (k := 8) (by decide) hk
  exact Rs_call c267_10 h1 (by rw [show qx_args 266 [.ref t, .int z0] = decide (qx_sh t = some (.inl 8)) from rfl]; exact decide_eq_true h2)
theorem c267_13 : qx_code 267 13 = some (13, .goto 4, 16, 17, 0, 0) := by decide +kernel
theorem s267_13 {L : Nat} {xs : Nat → Int32} {d x : Nat} {M : qxM} {st : List Value} {ls : qxL} : Rs L xs (d) 267 13 ls st M x = Rs L xs (d) 267 17 ls st M x := Rs_next c267_13 rfl
theorem c267_16 : qx_code 267 16 = some (16, .iconst 0, 17, 0, 0, 0) := by decide +kernel
theorem s267_16 {L : Nat} {xs : Nat → Int32} {d x : Nat} {M : qxM} {st : List Value} {ls : qxL} : Rs L xs (d) 267 16 ls st M x = Rs L xs (d) 267 17 ls (.int (nI 0) :: st) M x := Rs_next c267_16 rfl
theorem c267_17 : qx_code 267 17 = some (17, .ireturn, 18, 0, 0, 0) := by decide +kernel
theorem s267_17 {L : Nat} {xs : Nat → Int32} {d x : Nat} {M : qxM} {ls : qxL} {z : Int32} : Rs L xs (d) 267 17 ls [.int z] M x = some (.inl (some (.int z)), M, x) := Rs_ret c267_17 rfl
theorem c268_0 : qx_code 268 0 = some (0, .aload_n 0, 1, 0, 0, 0) := by decide +kernel
theorem s268_0 {L : Nat} {xs : Nat → Int32} {d x : Nat} {M : qxM} {st : List Value} {a1 a2 : Option Value} {z : Nat} : Rs L xs (d) 268 0 [some (.ref z), a1, a2] st M x = Rs L xs (d) 268 1 [some (.ref z), a1, a2] (.ref z :: st) M x := Rs_next c268_0 rfl
theorem c268_1 : qx_code 268 1 = some (1, .iload_n 1, 2, 0, 0, 0) := by decide +kernel
theorem s268_1 {L : Nat} {xs : Nat → Int32} {d x : Nat} {M : qxM} {st : List Value} {a0 a2 : Option Value} {z : Int32} : Rs L xs (d) 268 1 [a0, some (.int z), a2] st M x = Rs L xs (d) 268 2 [a0, some (.int z), a2] (.int z :: st) M x := Rs_next c268_1 rfl
theorem c268_2 : qx_code 268 2 = some (2, .invokevirtual 232, 5, 226, 2, 1819) := by decide +kernel
theorem s268_2 {L : Nat} {xs : Nat → Int32} {d x : Nat} {M : qxM} {st : List Value} {ls : qxL} {t : Nat} {z0 : Int32} (hk : qx_kd t = 18) (hs : st.length ≤ 4) : Rs L xs (d + 1) 268 2 ls (.int z0 :: .ref t :: st) M x = (Rs L xs d 226 0 [some (.ref t), some (.int z0)] [] M 0).bind (qx_kn L xs (d + 1) 268 2 5 226 ls st x) := by
  have h1 : qx_act L xs (qx_rt 268) (2, .invokevirtual 232, 5, 226, 2, 1819) ls (.int z0 :: .ref t :: st) M = if 2 ≤ (.int z0 :: .ref t :: st).length ∧ st.length ≤ 4 then some (.inr (.inr (.inr (226, [.ref t, .int z0], st)))) else none := rfl
  rw [if_pos ⟨by simp [List.length_cons]; try omega, hs⟩] at h1
  have h2 := qx_kd_obj (k := 8) (by decide) hk
  exact Rs_call c268_2 h1 (by rw [show qx_args 226 [.ref t, .int z0] = decide (qx_sh t = some (.inl 8)) from rfl]; exact decide_eq_true h2)
theorem c268_5 : qx_code 268 5 = some (5, .ifCond .ne 5, 8, 10, 0, 0) := by decide +kernel
theorem s268_5 {L : Nat} {xs : Nat → Int32} {d x : Nat} {M : qxM} {st : List Value} {ls : qxL} {z : Int32} : Rs L xs (d) 268 5 ls (.int z :: st) M x = if z = 0 then Rs L xs (d) 268 8 ls st M x else Rs L xs (d) 268 10 ls st M x := Rs_ite c268_5 rfl
theorem c268_8 : qx_code 268 8 = some (8, .iconst 0, 9, 0, 0, 0) := by decide +kernel
theorem s268_8 {L : Nat} {xs : Nat → Int32} {d x : Nat} {M : qxM} {st : List Value} {ls : qxL} : Rs L xs (d) 268 8 ls st M x = Rs L xs (d) 268 9 ls (.int (nI 0) :: st) M x := Rs_next c268_8 rfl
theorem c268_9 : qx_code 268 9 = some (9, .ireturn, 10, 0, 0, 0) := by decide +kernel
theorem s268_9 {L : Nat} {xs : Nat → Int32} {d x : Nat} {M : qxM} {ls : qxL} {z : Int32} : Rs L xs (d) 268 9 ls [.int z] M x = some (.inl (some (.int z)), M, x) := Rs_ret c268_9 rfl
theorem c268_10 : qx_code 268 10 = some (10, .iload_n 2, 11, 0, 0, 0) := by decide +kernel
theorem s268_10 {L : Nat} {xs : Nat → Int32} {d x : Nat} {M : qxM} {st : List Value} {a0 a1 : Option Value} {z : Int32} : Rs L xs (d) 268 10 [a0, a1, some (.int z)] st M x = Rs L xs (d) 268 11 [a0, a1, some (.int z)] (.int z :: st) M x := Rs_next c268_10 rfl
theorem c268_11 : qx_code 268 11 = some (11, .iconst 0, 12, 0, 0, 0) := by decide +kernel
theorem s268_11 {L : Nat} {xs : Nat → Int32} {d x : Nat} {M : qxM} {st : List Value} {ls : qxL} : Rs L xs (d) 268 11 ls st M x = Rs L xs (d) 268 12 ls (.int (nI 0) :: st) M x := Rs_next c268_11 rfl
theorem c268_12 : qx_code 268 12 = some (12, .aload_n 0, 13, 0, 0, 0) := by decide +kernel
theorem s268_12 {L : Nat} {xs : Nat → Int32} {d x : Nat} {M : qxM} {st : List Value} {a1 a2 : Option Value} {z : Nat} : Rs L xs (d) 268 12 [some (.ref z), a1, a2] st M x = Rs L xs (d) 268 13 [some (.ref z), a1, a2] (.ref z :: st) M x := Rs_next c268_12 rfl
theorem c268_13 : qx_code 268 13 = some (13, .iload_n 1, 14, 0, 0, 0) := by decide +kernel
theorem s268_13 {L : Nat} {xs : Nat → Int32} {d x : Nat} {M : qxM} {st : List Value} {a0 a2 : Option Value} {z : Int32} : Rs L xs (d) 268 13 [a0, some (.int z), a2] st M x = Rs L xs (d) 268 14 [a0, some (.int z), a2] (.int z :: st) M x := Rs_next c268_13 rfl
theorem c268_14 : qx_code 268 14 = some (14, .invokevirtual 309, 17, 266, 2, 1902) := by decide +kernel
theorem s268_14 {L : Nat} {xs : Nat → Int32} {d x : Nat} {M : qxM} {st : List Value} {ls : qxL} {t : Nat} {z0 : Int32} (hk : qx_kd t = 18) (hs : st.length ≤ 4) : Rs L xs (d + 1) 268 14 ls (.int z0 :: .ref t :: st) M x = (Rs L xs d 266 0 [some (.ref t), some (.int z0)] [] M 0).bind (qx_kn L xs (d + 1) 268 14 17 266 ls st x) := by
  have h1 : qx_act L xs (qx_rt 268) (14, .invokevirtual 309, 17, 266, 2, 1902) ls (.int z0 :: .ref t :: st) M = if 2 ≤ (.int z0 :: .ref t :: st).length ∧ st.length ≤ 4 then some (.inr (.inr (.inr (266, [.ref t, .int z0], st)))) else none := rfl
  rw [if_pos ⟨by simp [List.length_cons]; try omega, hs⟩] at h1
  have h2 := qx_kd_obj (k := 8) (by decide) hk
  exact Rs_call c268_14 h1 (by rw [show qx_args 266 [.ref t, .int z0] = decide (qx_sh t = some (.inl 8)) from rfl]; exact decide_eq_true h2)
theorem c268_17 : qx_code 268 17 = some (17, .iconst 1, 18, 0, 0, 0) := by decide +kernel
theorem s268_17 {L : Nat} {xs : Nat → Int32} {d x : Nat} {M : qxM} {st : List Value} {ls : qxL} : Rs L xs (d) 268 17 ls st M x = Rs L xs (d) 268 18 ls (.int (nI 1) :: st) M x := Rs_next c268_17 rfl
theorem c268_18 : qx_code 268 18 = some (18, .isub, 19, 0, 0, 0) := by decide +kernel
theorem s268_18 {L : Nat} {xs : Nat → Int32} {d x : Nat} {M : qxM} {st : List Value} {ls : qxL} {z y : Int32} : Rs L xs (d) 268 18 ls (.int y :: .int z :: st) M x = Rs L xs (d) 268 19 ls (.int (z - y) :: st) M x := Rs_next c268_18 rfl
theorem c268_19 : qx_code 268 19 = some (19, .invokestatic 69, 22, 178, 3, 1641) := by decide +kernel
theorem s268_19 {L : Nat} {xs : Nat → Int32} {d x : Nat} {M : qxM} {st : List Value} {ls : qxL} {z0 : Int32} {z1 : Int32} {z2 : Int32} (hs : st.length ≤ 4) : Rs L xs (d + 1) 268 19 ls (.int z2 :: .int z1 :: .int z0 :: st) M x = (Rs L xs d 178 0 [some (.int z0), some (.int z1), some (.int z2)] [] M 0).bind (qx_kn L xs (d + 1) 268 19 22 178 ls st x) := by
  have h1 : qx_act L xs (qx_rt 268) (19, .invokestatic 69, 22, 178, 3, 1641) ls (.int z2 :: .int z1 :: .int z0 :: st) M = if 3 ≤ (.int z2 :: .int z1 :: .int z0 :: st).length ∧ st.length ≤ 4 then some (.inr (.inr (.inr (178, [.int z0, .int z1, .int z2], st)))) else none := rfl
  rw [if_pos ⟨by simp [List.length_cons]; try omega, hs⟩] at h1
  exact Rs_call c268_19 h1 rfl
theorem c268_22 : qx_code 268 22 = some (22, .ifCond .eq 12, 25, 34, 0, 0) := by decide +kernel
theorem s268_22 {L : Nat} {xs : Nat → Int32} {d x : Nat} {M : qxM} {st : List Value} {ls : qxL} {z : Int32} : Rs L xs (d) 268 22 ls (.int z :: st) M x = if z = 0 then Rs L xs (d) 268 34 ls st M x else Rs L xs (d) 268 25 ls st M x := Rs_ite c268_22 rfl
theorem c268_25 : qx_code 268 25 = some (25, .aload_n 0, 26, 0, 0, 0) := by decide +kernel
theorem s268_25 {L : Nat} {xs : Nat → Int32} {d x : Nat} {M : qxM} {st : List Value} {a1 a2 : Option Value} {z : Nat} : Rs L xs (d) 268 25 [some (.ref z), a1, a2] st M x = Rs L xs (d) 268 26 [some (.ref z), a1, a2] (.ref z :: st) M x := Rs_next c268_25 rfl
theorem c268_26 : qx_code 268 26 = some (26, .iload_n 1, 27, 0, 0, 0) := by decide +kernel
theorem s268_26 {L : Nat} {xs : Nat → Int32} {d x : Nat} {M : qxM} {st : List Value} {a0 a2 : Option Value} {z : Int32} : Rs L xs (d) 268 26 [a0, some (.int z), a2] st M x = Rs L xs (d) 268 27 [a0, some (.int z), a2] (.int z :: st) M x := Rs_next c268_26 rfl
theorem c268_27 : qx_code 268 27 = some (27, .iload_n 2, 28, 0, 0, 0) := by decide +kernel
theorem s268_27 {L : Nat} {xs : Nat → Int32} {d x : Nat} {M : qxM} {st : List Value} {a0 a1 : Option Value} {z : Int32} : Rs L xs (d) 268 27 [a0, a1, some (.int z)] st M x = Rs L xs (d) 268 28 [a0, a1, some (.int z)] (.int z :: st) M x := Rs_next c268_27 rfl
theorem c268_28 : qx_code 268 28 = some (28, .invokevirtual 241, 31, 235, 3, 1910) := by decide +kernel
theorem s268_28 {L : Nat} {xs : Nat → Int32} {d x : Nat} {M : qxM} {st : List Value} {ls : qxL} {t : Nat} {z0 : Int32} {z1 : Int32} (hk : qx_kd t = 18) (hs : st.length ≤ 4) : Rs L xs (d + 1) 268 28 ls (.int z1 :: .int z0 :: .ref t :: st) M x = (Rs L xs d 235 0 [some (.ref t), some (.int z0), some (.int z1)] [] M 0).bind (qx_kn L xs (d + 1) 268 28 31 235 ls st x) := by
  have h1 : qx_act L xs (qx_rt 268) (28, .invokevirtual 241, 31, 235, 3, 1910) ls (.int z1 :: .int z0 :: .ref t :: st) M = if 3 ≤ (.int z1 :: .int z0 :: .ref t :: st).length ∧ st.length ≤ 4 then some (.inr (.inr (.inr (235, [.ref t, .int z0, .int z1], st)))) else none := rfl
  rw [if_pos ⟨by simp [List.length_cons]; try omega, hs⟩] at h1
  have h2 := qx_kd_obj (k := 8) (by decide) hk
  exact Rs_call c268_28 h1 (by rw [show qx_args 235 [.ref t, .int z0, .int z1] = decide (qx_sh t = some (.inl 8)) from rfl]; exact decide_eq_true h2)
theorem c268_31 : qx_code 268 31 = some (31, .goto 4, 34, 35, 0, 0) := by decide +kernel
theorem s268_31 {L : Nat} {xs : Nat → Int32} {d x : Nat} {M : qxM} {st : List Value} {ls : qxL} : Rs L xs (d) 268 31 ls st M x = Rs L xs (d) 268 35 ls st M x := Rs_next c268_31 rfl
theorem c268_34 : qx_code 268 34 = some (34, .iconst (-1), 35, 0, 0, 0) := by decide +kernel
theorem s268_34 {L : Nat} {xs : Nat → Int32} {d x : Nat} {M : qxM} {st : List Value} {ls : qxL} : Rs L xs (d) 268 34 ls st M x = Rs L xs (d) 268 35 ls (.int (-1) :: st) M x := Rs_next c268_34 rfl
theorem c268_35 : qx_code 268 35 = some (35, .ireturn, 36, 0, 0, 0) := by decide +kernel
theorem s268_35 {L : Nat} {xs : Nat → Int32} {d x : Nat} {M : qxM} {ls : qxL} {z : Int32} : Rs L xs (d) 268 35 ls [.int z] M x = some (.inl (some (.int z)), M, x) := Rs_ret c268_35 rfl
theorem c269_0 : qx_code 269 0 = some (0, .aload_n 0, 1, 0, 0, 0) := by decide +kernel
theorem s269_0 {L : Nat} {xs : Nat → Int32} {d x : Nat} {M : qxM} {st : List Value} {z : Nat} : Rs L xs (d) 269 0 [some (.ref z)] st M x = Rs L xs (d) 269 1 [some (.ref z)] (.ref z :: st) M x := Rs_next c269_0 rfl
theorem c269_1 : qx_code 269 1 = some (1, .invokevirtual 306, 4, 263, 1, 1882) := by decide +kernel
theorem s269_1 {L : Nat} {xs : Nat → Int32} {d x : Nat} {M : qxM} {st : List Value} {ls : qxL} {t : Nat} (hk : qx_kd t = 18) (hs : st.length ≤ 4) : Rs L xs (d + 1) 269 1 ls (.ref t :: st) M x = (Rs L xs d 263 0 [some (.ref t)] [] M 0).bind (qx_kn L xs (d + 1) 269 1 4 263 ls st x) := by
  have h1 : qx_act L xs (qx_rt 269) (1, .invokevirtual 306, 4, 263, 1, 1882) ls (.ref t :: st) M = if 1 ≤ (.ref t :: st).length ∧ st.length ≤ 4 then some (.inr (.inr (.inr (263, [.ref t], st)))) else none := rfl
  rw [if_pos ⟨by simp [List.length_cons]; try omega, hs⟩] at h1
  have h2 := qx_kd_obj (k := 8) (by decide) hk
  exact Rs_call c269_1 h1 (by rw [show qx_args 263 [.ref t] = decide (qx_sh t = some (.inl 8)) from rfl]; exact decide_eq_true h2)
theorem c269_4 : qx_code 269 4 = some (4, .ifCond .eq 18, 7, 22, 0, 0) := by decide +kernel
theorem s269_4 {L : Nat} {xs : Nat → Int32} {d x : Nat} {M : qxM} {st : List Value} {ls : qxL} {z : Int32} : Rs L xs (d) 269 4 ls (.int z :: st) M x = if z = 0 then Rs L xs (d) 269 22 ls st M x else Rs L xs (d) 269 7 ls st M x := Rs_ite c269_4 rfl
theorem c269_7 : qx_code 269 7 = some (7, .aload_n 0, 8, 0, 0, 0) := by decide +kernel
theorem s269_7 {L : Nat} {xs : Nat → Int32} {d x : Nat} {M : qxM} {st : List Value} {z : Nat} : Rs L xs (d) 269 7 [some (.ref z)] st M x = Rs L xs (d) 269 8 [some (.ref z)] (.ref z :: st) M x := Rs_next c269_7 rfl
theorem c269_8 : qx_code 269 8 = some (8, .invokevirtual 294, 11, 255, 1, 1838) := by decide +kernel
theorem s269_8 {L : Nat} {xs : Nat → Int32} {d x : Nat} {M : qxM} {st : List Value} {ls : qxL} {t : Nat} (hk : qx_kd t = 18) (hs : st.length ≤ 4) : Rs L xs (d + 1) 269 8 ls (.ref t :: st) M x = (Rs L xs d 255 0 [some (.ref t)] [] M 0).bind (qx_kn L xs (d + 1) 269 8 11 255 ls st x) := by
  have h1 : qx_act L xs (qx_rt 269) (8, .invokevirtual 294, 11, 255, 1, 1838) ls (.ref t :: st) M = if 1 ≤ (.ref t :: st).length ∧ st.length ≤ 4 then some (.inr (.inr (.inr (255, [.ref t], st)))) else none := rfl
  rw [if_pos ⟨by simp [List.length_cons]; try omega, hs⟩] at h1
  have h2 := qx_kd_obj (k := 8) (by decide) hk
  exact Rs_call c269_8 h1 (by rw [show qx_args 255 [.ref t] = decide (qx_sh t = some (.inl 8)) from rfl]; exact decide_eq_true h2)
theorem c269_11 : qx_code 269 11 = some (11, .ifCond .eq 11, 14, 22, 0, 0) := by decide +kernel
theorem s269_11 {L : Nat} {xs : Nat → Int32} {d x : Nat} {M : qxM} {st : List Value} {ls : qxL} {z : Int32} : Rs L xs (d) 269 11 ls (.int z :: st) M x = if z = 0 then Rs L xs (d) 269 22 ls st M x else Rs L xs (d) 269 14 ls st M x := Rs_ite c269_11 rfl
theorem c269_14 : qx_code 269 14 = some (14, .aload_n 0, 15, 0, 0, 0) := by decide +kernel
theorem s269_14 {L : Nat} {xs : Nat → Int32} {d x : Nat} {M : qxM} {st : List Value} {z : Nat} : Rs L xs (d) 269 14 [some (.ref z)] st M x = Rs L xs (d) 269 15 [some (.ref z)] (.ref z :: st) M x := Rs_next c269_14 rfl
theorem c269_15 : qx_code 269 15 = some (15, .iconst 3, 16, 0, 0, 0) := by decide +kernel
theorem s269_15 {L : Nat} {xs : Nat → Int32} {d x : Nat} {M : qxM} {st : List Value} {ls : qxL} : Rs L xs (d) 269 15 ls st M x = Rs L xs (d) 269 16 ls (.int (nI 3) :: st) M x := Rs_next c269_15 rfl
theorem c269_16 : qx_code 269 16 = some (16, .invokevirtual 300, 19, 254, 2, 1846) := by decide +kernel
theorem s269_16 {L : Nat} {xs : Nat → Int32} {d x : Nat} {M : qxM} {st : List Value} {ls : qxL} {t : Nat} {z0 : Int32} (hk : qx_kd t = 18) (hs : st.length ≤ 4) : Rs L xs (d + 1) 269 16 ls (.int z0 :: .ref t :: st) M x = (Rs L xs d 254 0 [some (.ref t), some (.int z0), none, none] [] M 0).bind (qx_kn L xs (d + 1) 269 16 19 254 ls st x) := by
  have h1 : qx_act L xs (qx_rt 269) (16, .invokevirtual 300, 19, 254, 2, 1846) ls (.int z0 :: .ref t :: st) M = if 2 ≤ (.int z0 :: .ref t :: st).length ∧ st.length ≤ 4 then some (.inr (.inr (.inr (254, [.ref t, .int z0], st)))) else none := rfl
  rw [if_pos ⟨by simp [List.length_cons]; try omega, hs⟩] at h1
  have h2 := qx_kd_obj (k := 8) (by decide) hk
  exact Rs_call c269_16 h1 (by rw [show qx_args 254 [.ref t, .int z0] = decide (qx_sh t = some (.inl 8)) from rfl]; exact decide_eq_true h2)
theorem c269_19 : qx_code 269 19 = some (19, .goto 4, 22, 23, 0, 0) := by decide +kernel
theorem s269_19 {L : Nat} {xs : Nat → Int32} {d x : Nat} {M : qxM} {st : List Value} {ls : qxL} : Rs L xs (d) 269 19 ls st M x = Rs L xs (d) 269 23 ls st M x := Rs_next c269_19 rfl
theorem c269_22 : qx_code 269 22 = some (22, .iconst 0, 23, 0, 0, 0) := by decide +kernel
theorem s269_22 {L : Nat} {xs : Nat → Int32} {d x : Nat} {M : qxM} {st : List Value} {ls : qxL} : Rs L xs (d) 269 22 ls st M x = Rs L xs (d) 269 23 ls (.int (nI 0) :: st) M x := Rs_next c269_22 rfl
theorem c269_23 : qx_code 269 23 = some (23, .ireturn, 24, 0, 0, 0) := by decide +kernel
theorem s269_23 {L : Nat} {xs : Nat → Int32} {d x : Nat} {M : qxM} {ls : qxL} {z : Int32} : Rs L xs (d) 269 23 ls [.int z] M x = some (.inl (some (.int z)), M, x) := Rs_ret c269_23 rfl
theorem c270_0 : qx_code 270 0 = some (0, .iload_n 1, 1, 0, 0, 0) := by decide +kernel
theorem s270_0 {L : Nat} {xs : Nat → Int32} {d x : Nat} {M : qxM} {st : List Value} {a0 a2 a3 a4 a5 a6 a7 a8 : Option Value} {z : Int32} : Rs L xs (d) 270 0 [a0, some (.int z), a2, a3, a4, a5, a6, a7, a8] st M x = Rs L xs (d) 270 1 [a0, some (.int z), a2, a3, a4, a5, a6, a7, a8] (.int z :: st) M x := Rs_next c270_0 rfl
theorem c270_1 : qx_code 270 1 = some (1, .invokestatic 235, 4, 210, 1, 1823) := by decide +kernel
theorem s270_1 {L : Nat} {xs : Nat → Int32} {d x : Nat} {M : qxM} {st : List Value} {ls : qxL} {z0 : Int32} (hs : st.length ≤ 4) : Rs L xs (d + 1) 270 1 ls (.int z0 :: st) M x = (Rs L xs d 210 0 [some (.int z0)] [] M 0).bind (qx_kn L xs (d + 1) 270 1 4 210 ls st x) := by
  have h1 : qx_act L xs (qx_rt 270) (1, .invokestatic 235, 4, 210, 1, 1823) ls (.int z0 :: st) M = if 1 ≤ (.int z0 :: st).length ∧ st.length ≤ 4 then some (.inr (.inr (.inr (210, [.int z0], st)))) else none := rfl
  rw [if_pos ⟨by simp [List.length_cons]; try omega, hs⟩] at h1
  exact Rs_call c270_1 h1 rfl
theorem c270_4 : qx_code 270 4 = some (4, .istore_n 2, 5, 0, 0, 0) := by decide +kernel
theorem s270_4i {L : Nat} {xs : Nat → Int32} {d x : Nat} {M : qxM} {st : List Value} {a0 a2 a3 a4 a5 a6 a7 a8 : Option Value} {z : Int32} {y : Int32} : Rs L xs (d) 270 4 [a0, some (.int y), a2, a3, a4, a5, a6, a7, a8] (.int z :: st) M x = Rs L xs (d) 270 5 [a0, some (.int y), some (.int z), a3, a4, a5, a6, a7, a8] st M x := Rs_next c270_4 rfl
theorem s270_4r {L : Nat} {xs : Nat → Int32} {d x : Nat} {M : qxM} {st : List Value} {a0 a2 a3 a4 a5 a6 a7 a8 : Option Value} {z : Int32} {y : Nat} : Rs L xs (d) 270 4 [a0, some (.ref y), a2, a3, a4, a5, a6, a7, a8] (.int z :: st) M x = Rs L xs (d) 270 5 [a0, some (.ref y), some (.int z), a3, a4, a5, a6, a7, a8] st M x := Rs_next c270_4 rfl
theorem s270_4n {L : Nat} {xs : Nat → Int32} {d x : Nat} {M : qxM} {st : List Value} {a0 a2 a3 a4 a5 a6 a7 a8 : Option Value} {z : Int32} : Rs L xs (d) 270 4 [a0, none, a2, a3, a4, a5, a6, a7, a8] (.int z :: st) M x = Rs L xs (d) 270 5 [a0, none, some (.int z), a3, a4, a5, a6, a7, a8] st M x := Rs_next c270_4 rfl
theorem c270_5 : qx_code 270 5 = some (5, .iload_n 1, 6, 0, 0, 0) := by decide +kernel
theorem s270_5 {L : Nat} {xs : Nat → Int32} {d x : Nat} {M : qxM} {st : List Value} {a0 a2 a3 a4 a5 a6 a7 a8 : Option Value} {z : Int32} : Rs L xs (d) 270 5 [a0, some (.int z), a2, a3, a4, a5, a6, a7, a8] st M x = Rs L xs (d) 270 6 [a0, some (.int z), a2, a3, a4, a5, a6, a7, a8] (.int z :: st) M x := Rs_next c270_5 rfl
theorem c270_6 : qx_code 270 6 = some (6, .iload_n 1, 7, 0, 0, 0) := by decide +kernel
theorem s270_6 {L : Nat} {xs : Nat → Int32} {d x : Nat} {M : qxM} {st : List Value} {a0 a2 a3 a4 a5 a6 a7 a8 : Option Value} {z : Int32} : Rs L xs (d) 270 6 [a0, some (.int z), a2, a3, a4, a5, a6, a7, a8] st M x = Rs L xs (d) 270 7 [a0, some (.int z), a2, a3, a4, a5, a6, a7, a8] (.int z :: st) M x := Rs_next c270_6 rfl
theorem c270_7 : qx_code 270 7 = some (7, .iconst 1, 8, 0, 0, 0) := by decide +kernel
theorem s270_7 {L : Nat} {xs : Nat → Int32} {d x : Nat} {M : qxM} {st : List Value} {ls : qxL} : Rs L xs (d) 270 7 ls st M x = Rs L xs (d) 270 8 ls (.int (nI 1) :: st) M x := Rs_next c270_7 rfl
theorem c270_8 : qx_code 270 8 = some (8, .isub, 9, 0, 0, 0) := by decide +kernel
theorem s270_8 {L : Nat} {xs : Nat → Int32} {d x : Nat} {M : qxM} {st : List Value} {ls : qxL} {z y : Int32} : Rs L xs (d) 270 8 ls (.int y :: .int z :: st) M x = Rs L xs (d) 270 9 ls (.int (z - y) :: st) M x := Rs_next c270_8 rfl
theorem c270_9 : qx_code 270 9 = some (9, .iand, 10, 0, 0, 0) := by decide +kernel
theorem s270_9 {L : Nat} {xs : Nat → Int32} {d x : Nat} {M : qxM} {st : List Value} {ls : qxL} {z y : Int32} : Rs L xs (d) 270 9 ls (.int y :: .int z :: st) M x = Rs L xs (d) 270 10 ls (.int (z &&& y) :: st) M x := Rs_next c270_9 rfl
theorem c270_10 : qx_code 270 10 = some (10, .istore_n 3, 11, 0, 0, 0) := by decide +kernel
theorem s270_10i {L : Nat} {xs : Nat → Int32} {d x : Nat} {M : qxM} {st : List Value} {a0 a1 a3 a4 a5 a6 a7 a8 : Option Value} {z : Int32} {y : Int32} : Rs L xs (d) 270 10 [a0, a1, some (.int y), a3, a4, a5, a6, a7, a8] (.int z :: st) M x = Rs L xs (d) 270 11 [a0, a1, some (.int y), some (.int z), a4, a5, a6, a7, a8] st M x := Rs_next c270_10 rfl
theorem s270_10r {L : Nat} {xs : Nat → Int32} {d x : Nat} {M : qxM} {st : List Value} {a0 a1 a3 a4 a5 a6 a7 a8 : Option Value} {z : Int32} {y : Nat} : Rs L xs (d) 270 10 [a0, a1, some (.ref y), a3, a4, a5, a6, a7, a8] (.int z :: st) M x = Rs L xs (d) 270 11 [a0, a1, some (.ref y), some (.int z), a4, a5, a6, a7, a8] st M x := Rs_next c270_10 rfl
theorem s270_10n {L : Nat} {xs : Nat → Int32} {d x : Nat} {M : qxM} {st : List Value} {a0 a1 a3 a4 a5 a6 a7 a8 : Option Value} {z : Int32} : Rs L xs (d) 270 10 [a0, a1, none, a3, a4, a5, a6, a7, a8] (.int z :: st) M x = Rs L xs (d) 270 11 [a0, a1, none, some (.int z), a4, a5, a6, a7, a8] st M x := Rs_next c270_10 rfl
theorem c270_11 : qx_code 270 11 = some (11, .aload_n 0, 12, 0, 0, 0) := by decide +kernel
theorem s270_11 {L : Nat} {xs : Nat → Int32} {d x : Nat} {M : qxM} {st : List Value} {a1 a2 a3 a4 a5 a6 a7 a8 : Option Value} {z : Nat} : Rs L xs (d) 270 11 [some (.ref z), a1, a2, a3, a4, a5, a6, a7, a8] st M x = Rs L xs (d) 270 12 [some (.ref z), a1, a2, a3, a4, a5, a6, a7, a8] (.ref z :: st) M x := Rs_next c270_11 rfl
theorem c270_12 : qx_code 270 12 = some (12, .getfield 34, 15, 8, 17, 1562) := by decide +kernel
theorem s270_12 {L : Nat} {xs : Nat → Int32} {d x : Nat} {M : qxM} {st : List Value} {ls : qxL} {t : Nat} (hk : qx_kd t = 18) : Rs L xs (d) 270 12 ls (.ref t :: st) M x = Rs L xs (d) 270 15 ls (.ref (t + 7) :: st) M x := Rs_when (qx_kd_obj (k := 8) (by decide) hk) c270_12 rfl
theorem c270_15 : qx_code 270 15 = some (15, .iload_n 3, 16, 0, 0, 0) := by decide +kernel
theorem s270_15 {L : Nat} {xs : Nat → Int32} {d x : Nat} {M : qxM} {st : List Value} {a0 a1 a2 a4 a5 a6 a7 a8 : Option Value} {z : Int32} : Rs L xs (d) 270 15 [a0, a1, a2, some (.int z), a4, a5, a6, a7, a8] st M x = Rs L xs (d) 270 16 [a0, a1, a2, some (.int z), a4, a5, a6, a7, a8] (.int z :: st) M x := Rs_next c270_15 rfl
theorem c270_16 : qx_code 270 16 = some (16, .baload, 17, 0, 0, 0) := by decide +kernel
theorem s270_16 {L : Nat} {xs : Nat → Int32} {d x : Nat} {M : qxM} {st : List Value} {ls : qxL} {t : Nat} {j : Int32} (hk : qx_kd t = 1) (hj : qx_ib j (qx_ln t) = true) : Rs L xs (d) 270 16 ls (.int j :: .ref t :: st) M x = Rs L xs (d) 270 17 ls (.int (M.1 t j.toNatClampNeg) :: st) M x := by
  have h1 := qx_kd_row (k := 1) (by decide) hk
  exact Rs_unless (qx_ib_not hj) c270_16 (by unfold qx_act; dsimp only; rw [h1]; rfl)
theorem s270_16z {L : Nat} {xs : Nat → Int32} {d x : Nat} {M : qxM} {st : List Value} {ls : qxL} {t : Nat} {j : Int32} (hk : qx_kd t = 2) (hj : qx_ib j (qx_ln t) = true) : Rs L xs (d) 270 16 ls (.int j :: .ref t :: st) M x = Rs L xs (d) 270 17 ls (.int (M.1 t j.toNatClampNeg) :: st) M x := by
  have h1 := qx_kd_row (k := 2) (by decide) hk
  exact Rs_unless (qx_ib_not hj) c270_16 (by unfold qx_act; dsimp only; rw [h1]; rfl)
theorem c270_17 : qx_code 270 17 = some (17, .istore 4, 19, 0, 0, 0) := by decide +kernel
theorem s270_17i {L : Nat} {xs : Nat → Int32} {d x : Nat} {M : qxM} {st : List Value} {a0 a1 a2 a4 a5 a6 a7 a8 : Option Value} {z : Int32} {y : Int32} : Rs L xs (d) 270 17 [a0, a1, a2, some (.int y), a4, a5, a6, a7, a8] (.int z :: st) M x = Rs L xs (d) 270 19 [a0, a1, a2, some (.int y), some (.int z), a5, a6, a7, a8] st M x := Rs_next c270_17 rfl
theorem s270_17r {L : Nat} {xs : Nat → Int32} {d x : Nat} {M : qxM} {st : List Value} {a0 a1 a2 a4 a5 a6 a7 a8 : Option Value} {z : Int32} {y : Nat} : Rs L xs (d) 270 17 [a0, a1, a2, some (.ref y), a4, a5, a6, a7, a8] (.int z :: st) M x = Rs L xs (d) 270 19 [a0, a1, a2, some (.ref y), some (.int z), a5, a6, a7, a8] st M x := Rs_next c270_17 rfl
theorem s270_17n {L : Nat} {xs : Nat → Int32} {d x : Nat} {M : qxM} {st : List Value} {a0 a1 a2 a4 a5 a6 a7 a8 : Option Value} {z : Int32} : Rs L xs (d) 270 17 [a0, a1, a2, none, a4, a5, a6, a7, a8] (.int z :: st) M x = Rs L xs (d) 270 19 [a0, a1, a2, none, some (.int z), a5, a6, a7, a8] st M x := Rs_next c270_17 rfl
theorem c270_19 : qx_code 270 19 = some (19, .aload_n 0, 20, 0, 0, 0) := by decide +kernel
theorem s270_19 {L : Nat} {xs : Nat → Int32} {d x : Nat} {M : qxM} {st : List Value} {a1 a2 a3 a4 a5 a6 a7 a8 : Option Value} {z : Nat} : Rs L xs (d) 270 19 [some (.ref z), a1, a2, a3, a4, a5, a6, a7, a8] st M x = Rs L xs (d) 270 20 [some (.ref z), a1, a2, a3, a4, a5, a6, a7, a8] (.ref z :: st) M x := Rs_next c270_19 rfl
theorem c270_20 : qx_code 270 20 = some (20, .getfield 37, 23, 8, 18, 1563) := by decide +kernel
theorem s270_20 {L : Nat} {xs : Nat → Int32} {d x : Nat} {M : qxM} {st : List Value} {ls : qxL} {t : Nat} (hk : qx_kd t = 18) : Rs L xs (d) 270 20 ls (.ref t :: st) M x = Rs L xs (d) 270 23 ls (.ref (t + 8) :: st) M x := Rs_when (qx_kd_obj (k := 8) (by decide) hk) c270_20 rfl
theorem c270_23 : qx_code 270 23 = some (23, .iload_n 3, 24, 0, 0, 0) := by decide +kernel
theorem s270_23 {L : Nat} {xs : Nat → Int32} {d x : Nat} {M : qxM} {st : List Value} {a0 a1 a2 a4 a5 a6 a7 a8 : Option Value} {z : Int32} : Rs L xs (d) 270 23 [a0, a1, a2, some (.int z), a4, a5, a6, a7, a8] st M x = Rs L xs (d) 270 24 [a0, a1, a2, some (.int z), a4, a5, a6, a7, a8] (.int z :: st) M x := Rs_next c270_23 rfl
theorem c270_24 : qx_code 270 24 = some (24, .iaload, 25, 0, 0, 0) := by decide +kernel
theorem s270_24 {L : Nat} {xs : Nat → Int32} {d x : Nat} {M : qxM} {st : List Value} {ls : qxL} {t : Nat} {j : Int32} (hk : qx_kd t = 0) (hj : qx_ib j (qx_ln t) = true) : Rs L xs (d) 270 24 ls (.int j :: .ref t :: st) M x = Rs L xs (d) 270 25 ls (.int (M.1 t j.toNatClampNeg) :: st) M x := by
  have h1 := qx_kd_row (k := 0) (by decide) hk
  exact Rs_unless (qx_ib_not hj) c270_24 (by unfold qx_act; dsimp only; rw [h1]; rfl)
theorem c270_25 : qx_code 270 25 = some (25, .istore 5, 27, 0, 0, 0) := by decide +kernel
theorem s270_25i {L : Nat} {xs : Nat → Int32} {d x : Nat} {M : qxM} {st : List Value} {a0 a1 a2 a3 a5 a6 a7 a8 : Option Value} {z : Int32} {y : Int32} : Rs L xs (d) 270 25 [a0, a1, a2, a3, some (.int y), a5, a6, a7, a8] (.int z :: st) M x = Rs L xs (d) 270 27 [a0, a1, a2, a3, some (.int y), some (.int z), a6, a7, a8] st M x := Rs_next c270_25 rfl
theorem s270_25r {L : Nat} {xs : Nat → Int32} {d x : Nat} {M : qxM} {st : List Value} {a0 a1 a2 a3 a5 a6 a7 a8 : Option Value} {z : Int32} {y : Nat} : Rs L xs (d) 270 25 [a0, a1, a2, a3, some (.ref y), a5, a6, a7, a8] (.int z :: st) M x = Rs L xs (d) 270 27 [a0, a1, a2, a3, some (.ref y), some (.int z), a6, a7, a8] st M x := Rs_next c270_25 rfl
theorem s270_25n {L : Nat} {xs : Nat → Int32} {d x : Nat} {M : qxM} {st : List Value} {a0 a1 a2 a3 a5 a6 a7 a8 : Option Value} {z : Int32} : Rs L xs (d) 270 25 [a0, a1, a2, a3, none, a5, a6, a7, a8] (.int z :: st) M x = Rs L xs (d) 270 27 [a0, a1, a2, a3, none, some (.int z), a6, a7, a8] st M x := Rs_next c270_25 rfl
theorem c270_27 : qx_code 270 27 = some (27, .aload_n 0, 28, 0, 0, 0) := by decide +kernel
theorem s270_27 {L : Nat} {xs : Nat → Int32} {d x : Nat} {M : qxM} {st : List Value} {a1 a2 a3 a4 a5 a6 a7 a8 : Option Value} {z : Nat} : Rs L xs (d) 270 27 [some (.ref z), a1, a2, a3, a4, a5, a6, a7, a8] st M x = Rs L xs (d) 270 28 [some (.ref z), a1, a2, a3, a4, a5, a6, a7, a8] (.ref z :: st) M x := Rs_next c270_27 rfl
theorem c270_28 : qx_code 270 28 = some (28, .getfield 40, 31, 8, 19, 1564) := by decide +kernel
theorem s270_28 {L : Nat} {xs : Nat → Int32} {d x : Nat} {M : qxM} {st : List Value} {ls : qxL} {t : Nat} (hk : qx_kd t = 18) : Rs L xs (d) 270 28 ls (.ref t :: st) M x = Rs L xs (d) 270 31 ls (.ref (t + 9) :: st) M x := Rs_when (qx_kd_obj (k := 8) (by decide) hk) c270_28 rfl
theorem c270_31 : qx_code 270 31 = some (31, .iload_n 2, 32, 0, 0, 0) := by decide +kernel
theorem s270_31 {L : Nat} {xs : Nat → Int32} {d x : Nat} {M : qxM} {st : List Value} {a0 a1 a3 a4 a5 a6 a7 a8 : Option Value} {z : Int32} : Rs L xs (d) 270 31 [a0, a1, some (.int z), a3, a4, a5, a6, a7, a8] st M x = Rs L xs (d) 270 32 [a0, a1, some (.int z), a3, a4, a5, a6, a7, a8] (.int z :: st) M x := Rs_next c270_31 rfl
theorem c270_32 : qx_code 270 32 = some (32, .iaload, 33, 0, 0, 0) := by decide +kernel
theorem s270_32 {L : Nat} {xs : Nat → Int32} {d x : Nat} {M : qxM} {st : List Value} {ls : qxL} {t : Nat} {j : Int32} (hk : qx_kd t = 0) (hj : qx_ib j (qx_ln t) = true) : Rs L xs (d) 270 32 ls (.int j :: .ref t :: st) M x = Rs L xs (d) 270 33 ls (.int (M.1 t j.toNatClampNeg) :: st) M x := by
  have h1 := qx_kd_row (k := 0) (by decide) hk
  exact Rs_unless (qx_ib_not hj) c270_32 (by unfold qx_act; dsimp only; rw [h1]; rfl)
theorem c270_33 : qx_code 270 33 = some (33, .iload_n 3, 34, 0, 0, 0) := by decide +kernel
theorem s270_33 {L : Nat} {xs : Nat → Int32} {d x : Nat} {M : qxM} {st : List Value} {a0 a1 a2 a4 a5 a6 a7 a8 : Option Value} {z : Int32} : Rs L xs (d) 270 33 [a0, a1, a2, some (.int z), a4, a5, a6, a7, a8] st M x = Rs L xs (d) 270 34 [a0, a1, a2, some (.int z), a4, a5, a6, a7, a8] (.int z :: st) M x := Rs_next c270_33 rfl
theorem c270_34 : qx_code 270 34 = some (34, .iand, 35, 0, 0, 0) := by decide +kernel
theorem s270_34 {L : Nat} {xs : Nat → Int32} {d x : Nat} {M : qxM} {st : List Value} {ls : qxL} {z y : Int32} : Rs L xs (d) 270 34 ls (.int y :: .int z :: st) M x = Rs L xs (d) 270 35 ls (.int (z &&& y) :: st) M x := Rs_next c270_34 rfl
theorem c270_35 : qx_code 270 35 = some (35, .istore 6, 37, 0, 0, 0) := by decide +kernel
theorem s270_35i {L : Nat} {xs : Nat → Int32} {d x : Nat} {M : qxM} {st : List Value} {a0 a1 a2 a3 a4 a6 a7 a8 : Option Value} {z : Int32} {y : Int32} : Rs L xs (d) 270 35 [a0, a1, a2, a3, a4, some (.int y), a6, a7, a8] (.int z :: st) M x = Rs L xs (d) 270 37 [a0, a1, a2, a3, a4, some (.int y), some (.int z), a7, a8] st M x := Rs_next c270_35 rfl
theorem s270_35r {L : Nat} {xs : Nat → Int32} {d x : Nat} {M : qxM} {st : List Value} {a0 a1 a2 a3 a4 a6 a7 a8 : Option Value} {z : Int32} {y : Nat} : Rs L xs (d) 270 35 [a0, a1, a2, a3, a4, some (.ref y), a6, a7, a8] (.int z :: st) M x = Rs L xs (d) 270 37 [a0, a1, a2, a3, a4, some (.ref y), some (.int z), a7, a8] st M x := Rs_next c270_35 rfl
theorem s270_35n {L : Nat} {xs : Nat → Int32} {d x : Nat} {M : qxM} {st : List Value} {a0 a1 a2 a3 a4 a6 a7 a8 : Option Value} {z : Int32} : Rs L xs (d) 270 35 [a0, a1, a2, a3, a4, none, a6, a7, a8] (.int z :: st) M x = Rs L xs (d) 270 37 [a0, a1, a2, a3, a4, none, some (.int z), a7, a8] st M x := Rs_next c270_35 rfl
theorem c270_37 : qx_code 270 37 = some (37, .iload 6, 39, 0, 0, 0) := by decide +kernel
theorem s270_37 {L : Nat} {xs : Nat → Int32} {d x : Nat} {M : qxM} {st : List Value} {a0 a1 a2 a3 a4 a5 a7 a8 : Option Value} {z : Int32} : Rs L xs (d) 270 37 [a0, a1, a2, a3, a4, a5, some (.int z), a7, a8] st M x = Rs L xs (d) 270 39 [a0, a1, a2, a3, a4, a5, some (.int z), a7, a8] (.int z :: st) M x := Rs_next c270_37 rfl
theorem c270_39 : qx_code 270 39 = some (39, .ifCond .eq 81, 42, 120, 0, 0) := by decide +kernel
theorem s270_39 {L : Nat} {xs : Nat → Int32} {d x : Nat} {M : qxM} {st : List Value} {ls : qxL} {z : Int32} : Rs L xs (d) 270 39 ls (.int z :: st) M x = if z = 0 then Rs L xs (d) 270 120 ls st M x else Rs L xs (d) 270 42 ls st M x := Rs_ite c270_39 rfl
theorem c270_42 : qx_code 270 42 = some (42, .iload_n 3, 43, 0, 0, 0) := by decide +kernel
theorem s270_42 {L : Nat} {xs : Nat → Int32} {d x : Nat} {M : qxM} {st : List Value} {a0 a1 a2 a4 a5 a6 a7 a8 : Option Value} {z : Int32} : Rs L xs (d) 270 42 [a0, a1, a2, some (.int z), a4, a5, a6, a7, a8] st M x = Rs L xs (d) 270 43 [a0, a1, a2, some (.int z), a4, a5, a6, a7, a8] (.int z :: st) M x := Rs_next c270_42 rfl
theorem c270_43 : qx_code 270 43 = some (43, .iload 6, 45, 0, 0, 0) := by decide +kernel
theorem s270_43 {L : Nat} {xs : Nat → Int32} {d x : Nat} {M : qxM} {st : List Value} {a0 a1 a2 a3 a4 a5 a7 a8 : Option Value} {z : Int32} : Rs L xs (d) 270 43 [a0, a1, a2, a3, a4, a5, some (.int z), a7, a8] st M x = Rs L xs (d) 270 45 [a0, a1, a2, a3, a4, a5, some (.int z), a7, a8] (.int z :: st) M x := Rs_next c270_43 rfl
theorem c270_45 : qx_code 270 45 = some (45, .iload 6, 47, 0, 0, 0) := by decide +kernel
theorem s270_45 {L : Nat} {xs : Nat → Int32} {d x : Nat} {M : qxM} {st : List Value} {a0 a1 a2 a3 a4 a5 a7 a8 : Option Value} {z : Int32} : Rs L xs (d) 270 45 [a0, a1, a2, a3, a4, a5, some (.int z), a7, a8] st M x = Rs L xs (d) 270 47 [a0, a1, a2, a3, a4, a5, some (.int z), a7, a8] (.int z :: st) M x := Rs_next c270_45 rfl
theorem c270_47 : qx_code 270 47 = some (47, .ineg, 48, 0, 0, 0) := by decide +kernel
theorem s270_47 {L : Nat} {xs : Nat → Int32} {d x : Nat} {M : qxM} {st : List Value} {ls : qxL} {z : Int32} : Rs L xs (d) 270 47 ls (.int z :: st) M x = Rs L xs (d) 270 48 ls (.int (-z) :: st) M x := Rs_next c270_47 rfl
theorem c270_48 : qx_code 270 48 = some (48, .iand, 49, 0, 0, 0) := by decide +kernel
theorem s270_48 {L : Nat} {xs : Nat → Int32} {d x : Nat} {M : qxM} {st : List Value} {ls : qxL} {z y : Int32} : Rs L xs (d) 270 48 ls (.int y :: .int z :: st) M x = Rs L xs (d) 270 49 ls (.int (z &&& y) :: st) M x := Rs_next c270_48 rfl
theorem c270_49 : qx_code 270 49 = some (49, .iconst (-1), 50, 0, 0, 0) := by decide +kernel
theorem s270_49 {L : Nat} {xs : Nat → Int32} {d x : Nat} {M : qxM} {st : List Value} {ls : qxL} : Rs L xs (d) 270 49 ls st M x = Rs L xs (d) 270 50 ls (.int (-1) :: st) M x := Rs_next c270_49 rfl
theorem c270_50 : qx_code 270 50 = some (50, .ixor, 51, 0, 0, 0) := by decide +kernel
theorem s270_50 {L : Nat} {xs : Nat → Int32} {d x : Nat} {M : qxM} {st : List Value} {ls : qxL} {z y : Int32} : Rs L xs (d) 270 50 ls (.int y :: .int z :: st) M x = Rs L xs (d) 270 51 ls (.int (z ^^^ y) :: st) M x := Rs_next c270_50 rfl
theorem c270_51 : qx_code 270 51 = some (51, .iand, 52, 0, 0, 0) := by decide +kernel
theorem s270_51 {L : Nat} {xs : Nat → Int32} {d x : Nat} {M : qxM} {st : List Value} {ls : qxL} {z y : Int32} : Rs L xs (d) 270 51 ls (.int y :: .int z :: st) M x = Rs L xs (d) 270 52 ls (.int (z &&& y) :: st) M x := Rs_next c270_51 rfl
theorem c270_52 : qx_code 270 52 = some (52, .istore 7, 54, 0, 0, 0) := by decide +kernel
theorem s270_52i {L : Nat} {xs : Nat → Int32} {d x : Nat} {M : qxM} {st : List Value} {a0 a1 a2 a3 a4 a5 a7 a8 : Option Value} {z : Int32} {y : Int32} : Rs L xs (d) 270 52 [a0, a1, a2, a3, a4, a5, some (.int y), a7, a8] (.int z :: st) M x = Rs L xs (d) 270 54 [a0, a1, a2, a3, a4, a5, some (.int y), some (.int z), a8] st M x := Rs_next c270_52 rfl
theorem s270_52r {L : Nat} {xs : Nat → Int32} {d x : Nat} {M : qxM} {st : List Value} {a0 a1 a2 a3 a4 a5 a7 a8 : Option Value} {z : Int32} {y : Nat} : Rs L xs (d) 270 52 [a0, a1, a2, a3, a4, a5, some (.ref y), a7, a8] (.int z :: st) M x = Rs L xs (d) 270 54 [a0, a1, a2, a3, a4, a5, some (.ref y), some (.int z), a8] st M x := Rs_next c270_52 rfl
theorem s270_52n {L : Nat} {xs : Nat → Int32} {d x : Nat} {M : qxM} {st : List Value} {a0 a1 a2 a3 a4 a5 a7 a8 : Option Value} {z : Int32} : Rs L xs (d) 270 52 [a0, a1, a2, a3, a4, a5, none, a7, a8] (.int z :: st) M x = Rs L xs (d) 270 54 [a0, a1, a2, a3, a4, a5, none, some (.int z), a8] st M x := Rs_next c270_52 rfl
theorem c270_54 : qx_code 270 54 = some (54, .aload_n 0, 55, 0, 0, 0) := by decide +kernel
theorem s270_54 {L : Nat} {xs : Nat → Int32} {d x : Nat} {M : qxM} {st : List Value} {a1 a2 a3 a4 a5 a6 a7 a8 : Option Value} {z : Nat} : Rs L xs (d) 270 54 [some (.ref z), a1, a2, a3, a4, a5, a6, a7, a8] st M x = Rs L xs (d) 270 55 [some (.ref z), a1, a2, a3, a4, a5, a6, a7, a8] (.ref z :: st) M x := Rs_next c270_54 rfl
theorem c270_55 : qx_code 270 55 = some (55, .getfield 34, 58, 8, 17, 1562) := by decide +kernel
theorem s270_55 {L : Nat} {xs : Nat → Int32} {d x : Nat} {M : qxM} {st : List Value} {ls : qxL} {t : Nat} (hk : qx_kd t = 18) : Rs L xs (d) 270 55 ls (.ref t :: st) M x = Rs L xs (d) 270 58 ls (.ref (t + 7) :: st) M x := Rs_when (qx_kd_obj (k := 8) (by decide) hk) c270_55 rfl
theorem c270_58 : qx_code 270 58 = some (58, .iload 7, 60, 0, 0, 0) := by decide +kernel
theorem s270_58 {L : Nat} {xs : Nat → Int32} {d x : Nat} {M : qxM} {st : List Value} {a0 a1 a2 a3 a4 a5 a6 a8 : Option Value} {z : Int32} : Rs L xs (d) 270 58 [a0, a1, a2, a3, a4, a5, a6, some (.int z), a8] st M x = Rs L xs (d) 270 60 [a0, a1, a2, a3, a4, a5, a6, some (.int z), a8] (.int z :: st) M x := Rs_next c270_58 rfl
theorem c270_60 : qx_code 270 60 = some (60, .baload, 61, 0, 0, 0) := by decide +kernel
theorem s270_60 {L : Nat} {xs : Nat → Int32} {d x : Nat} {M : qxM} {st : List Value} {ls : qxL} {t : Nat} {j : Int32} (hk : qx_kd t = 1) (hj : qx_ib j (qx_ln t) = true) : Rs L xs (d) 270 60 ls (.int j :: .ref t :: st) M x = Rs L xs (d) 270 61 ls (.int (M.1 t j.toNatClampNeg) :: st) M x := by
  have h1 := qx_kd_row (k := 1) (by decide) hk
  exact Rs_unless (qx_ib_not hj) c270_60 (by unfold qx_act; dsimp only; rw [h1]; rfl)
theorem s270_60z {L : Nat} {xs : Nat → Int32} {d x : Nat} {M : qxM} {st : List Value} {ls : qxL} {t : Nat} {j : Int32} (hk : qx_kd t = 2) (hj : qx_ib j (qx_ln t) = true) : Rs L xs (d) 270 60 ls (.int j :: .ref t :: st) M x = Rs L xs (d) 270 61 ls (.int (M.1 t j.toNatClampNeg) :: st) M x := by
  have h1 := qx_kd_row (k := 2) (by decide) hk
  exact Rs_unless (qx_ib_not hj) c270_60 (by unfold qx_act; dsimp only; rw [h1]; rfl)
theorem c270_61 : qx_code 270 61 = some (61, .iconst 1, 62, 0, 0, 0) := by decide +kernel
theorem s270_61 {L : Nat} {xs : Nat → Int32} {d x : Nat} {M : qxM} {st : List Value} {ls : qxL} : Rs L xs (d) 270 61 ls st M x = Rs L xs (d) 270 62 ls (.int (nI 1) :: st) M x := Rs_next c270_61 rfl
theorem c270_62 : qx_code 270 62 = some (62, .iadd, 63, 0, 0, 0) := by decide +kernel
theorem s270_62 {L : Nat} {xs : Nat → Int32} {d x : Nat} {M : qxM} {st : List Value} {ls : qxL} {z y : Int32} : Rs L xs (d) 270 62 ls (.int y :: .int z :: st) M x = Rs L xs (d) 270 63 ls (.int (z + y) :: st) M x := Rs_next c270_62 rfl
theorem c270_63 : qx_code 270 63 = some (63, .istore 8, 65, 0, 0, 0) := by decide +kernel
theorem s270_63i {L : Nat} {xs : Nat → Int32} {d x : Nat} {M : qxM} {st : List Value} {a0 a1 a2 a3 a4 a5 a6 a8 : Option Value} {z : Int32} {y : Int32} : Rs L xs (d) 270 63 [a0, a1, a2, a3, a4, a5, a6, some (.int y), a8] (.int z :: st) M x = Rs L xs (d) 270 65 [a0, a1, a2, a3, a4, a5, a6, some (.int y), some (.int z)] st M x := Rs_next c270_63 rfl
theorem s270_63r {L : Nat} {xs : Nat → Int32} {d x : Nat} {M : qxM} {st : List Value} {a0 a1 a2 a3 a4 a5 a6 a8 : Option Value} {z : Int32} {y : Nat} : Rs L xs (d) 270 63 [a0, a1, a2, a3, a4, a5, a6, some (.ref y), a8] (.int z :: st) M x = Rs L xs (d) 270 65 [a0, a1, a2, a3, a4, a5, a6, some (.ref y), some (.int z)] st M x := Rs_next c270_63 rfl
theorem s270_63n {L : Nat} {xs : Nat → Int32} {d x : Nat} {M : qxM} {st : List Value} {a0 a1 a2 a3 a4 a5 a6 a8 : Option Value} {z : Int32} : Rs L xs (d) 270 63 [a0, a1, a2, a3, a4, a5, a6, none, a8] (.int z :: st) M x = Rs L xs (d) 270 65 [a0, a1, a2, a3, a4, a5, a6, none, some (.int z)] st M x := Rs_next c270_63 rfl
theorem c270_65 : qx_code 270 65 = some (65, .iload 8, 67, 0, 0, 0) := by decide +kernel
theorem s270_65 {L : Nat} {xs : Nat → Int32} {d x : Nat} {M : qxM} {st : List Value} {a0 a1 a2 a3 a4 a5 a6 a7 : Option Value} {z : Int32} : Rs L xs (d) 270 65 [a0, a1, a2, a3, a4, a5, a6, a7, some (.int z)] st M x = Rs L xs (d) 270 67 [a0, a1, a2, a3, a4, a5, a6, a7, some (.int z)] (.int z :: st) M x := Rs_next c270_65 rfl
theorem c270_67 : qx_code 270 67 = some (67, .iload 4, 69, 0, 0, 0) := by decide +kernel
theorem s270_67 {L : Nat} {xs : Nat → Int32} {d x : Nat} {M : qxM} {st : List Value} {a0 a1 a2 a3 a5 a6 a7 a8 : Option Value} {z : Int32} : Rs L xs (d) 270 67 [a0, a1, a2, a3, some (.int z), a5, a6, a7, a8] st M x = Rs L xs (d) 270 69 [a0, a1, a2, a3, some (.int z), a5, a6, a7, a8] (.int z :: st) M x := Rs_next c270_67 rfl
theorem c270_69 : qx_code 270 69 = some (69, .if_icmp .ge 6, 72, 75, 0, 0) := by decide +kernel
theorem s270_69 {L : Nat} {xs : Nat → Int32} {d x : Nat} {M : qxM} {st : List Value} {ls : qxL} {z y : Int32} : Rs L xs (d) 270 69 ls (.int y :: .int z :: st) M x = if y ≤ z then Rs L xs (d) 270 75 ls st M x else Rs L xs (d) 270 72 ls st M x := Rs_ite c270_69 rfl
theorem c270_72 : qx_code 270 72 = some (72, .goto 36, 75, 108, 0, 0) := by decide +kernel
theorem s270_72 {L : Nat} {xs : Nat → Int32} {d x : Nat} {M : qxM} {st : List Value} {ls : qxL} : Rs L xs (d) 270 72 ls st M x = Rs L xs (d) 270 108 ls st M x := Rs_next c270_72 rfl
theorem c270_75 : qx_code 270 75 = some (75, .iload 8, 77, 0, 0, 0) := by decide +kernel
theorem s270_75 {L : Nat} {xs : Nat → Int32} {d x : Nat} {M : qxM} {st : List Value} {a0 a1 a2 a3 a4 a5 a6 a7 : Option Value} {z : Int32} : Rs L xs (d) 270 75 [a0, a1, a2, a3, a4, a5, a6, a7, some (.int z)] st M x = Rs L xs (d) 270 77 [a0, a1, a2, a3, a4, a5, a6, a7, some (.int z)] (.int z :: st) M x := Rs_next c270_75 rfl
theorem c270_77 : qx_code 270 77 = some (77, .iload 4, 79, 0, 0, 0) := by decide +kernel
theorem s270_77 {L : Nat} {xs : Nat → Int32} {d x : Nat} {M : qxM} {st : List Value} {a0 a1 a2 a3 a5 a6 a7 a8 : Option Value} {z : Int32} : Rs L xs (d) 270 77 [a0, a1, a2, a3, some (.int z), a5, a6, a7, a8] st M x = Rs L xs (d) 270 79 [a0, a1, a2, a3, some (.int z), a5, a6, a7, a8] (.int z :: st) M x := Rs_next c270_77 rfl
theorem c270_79 : qx_code 270 79 = some (79, .if_icmp .le 13, 82, 92, 0, 0) := by decide +kernel
theorem s270_79 {L : Nat} {xs : Nat → Int32} {d x : Nat} {M : qxM} {st : List Value} {ls : qxL} {z y : Int32} : Rs L xs (d) 270 79 ls (.int y :: .int z :: st) M x = if z ≤ y then Rs L xs (d) 270 92 ls st M x else Rs L xs (d) 270 82 ls st M x := Rs_ite c270_79 rfl
theorem c270_82 : qx_code 270 82 = some (82, .aload_n 0, 83, 0, 0, 0) := by decide +kernel
theorem s270_82 {L : Nat} {xs : Nat → Int32} {d x : Nat} {M : qxM} {st : List Value} {a1 a2 a3 a4 a5 a6 a7 a8 : Option Value} {z : Nat} : Rs L xs (d) 270 82 [some (.ref z), a1, a2, a3, a4, a5, a6, a7, a8] st M x = Rs L xs (d) 270 83 [some (.ref z), a1, a2, a3, a4, a5, a6, a7, a8] (.ref z :: st) M x := Rs_next c270_82 rfl
theorem c270_83 : qx_code 270 83 = some (83, .getfield 37, 86, 8, 18, 1563) := by decide +kernel
theorem s270_83 {L : Nat} {xs : Nat → Int32} {d x : Nat} {M : qxM} {st : List Value} {ls : qxL} {t : Nat} (hk : qx_kd t = 18) : Rs L xs (d) 270 83 ls (.ref t :: st) M x = Rs L xs (d) 270 86 ls (.ref (t + 8) :: st) M x := Rs_when (qx_kd_obj (k := 8) (by decide) hk) c270_83 rfl
theorem c270_86 : qx_code 270 86 = some (86, .iload 7, 88, 0, 0, 0) := by decide +kernel
theorem s270_86 {L : Nat} {xs : Nat → Int32} {d x : Nat} {M : qxM} {st : List Value} {a0 a1 a2 a3 a4 a5 a6 a8 : Option Value} {z : Int32} : Rs L xs (d) 270 86 [a0, a1, a2, a3, a4, a5, a6, some (.int z), a8] st M x = Rs L xs (d) 270 88 [a0, a1, a2, a3, a4, a5, a6, some (.int z), a8] (.int z :: st) M x := Rs_next c270_86 rfl
theorem c270_88 : qx_code 270 88 = some (88, .iaload, 89, 0, 0, 0) := by decide +kernel
theorem s270_88 {L : Nat} {xs : Nat → Int32} {d x : Nat} {M : qxM} {st : List Value} {ls : qxL} {t : Nat} {j : Int32} (hk : qx_kd t = 0) (hj : qx_ib j (qx_ln t) = true) : Rs L xs (d) 270 88 ls (.int j :: .ref t :: st) M x = Rs L xs (d) 270 89 ls (.int (M.1 t j.toNatClampNeg) :: st) M x := by
  have h1 := qx_kd_row (k := 0) (by decide) hk
  exact Rs_unless (qx_ib_not hj) c270_88 (by unfold qx_act; dsimp only; rw [h1]; rfl)
theorem c270_89 : qx_code 270 89 = some (89, .goto 13, 92, 102, 0, 0) := by decide +kernel
theorem s270_89 {L : Nat} {xs : Nat → Int32} {d x : Nat} {M : qxM} {st : List Value} {ls : qxL} : Rs L xs (d) 270 89 ls st M x = Rs L xs (d) 270 102 ls st M x := Rs_next c270_89 rfl
theorem c270_92 : qx_code 270 92 = some (92, .iload 5, 94, 0, 0, 0) := by decide +kernel
theorem s270_92 {L : Nat} {xs : Nat → Int32} {d x : Nat} {M : qxM} {st : List Value} {a0 a1 a2 a3 a4 a6 a7 a8 : Option Value} {z : Int32} : Rs L xs (d) 270 92 [a0, a1, a2, a3, a4, some (.int z), a6, a7, a8] st M x = Rs L xs (d) 270 94 [a0, a1, a2, a3, a4, some (.int z), a6, a7, a8] (.int z :: st) M x := Rs_next c270_92 rfl
theorem c270_94 : qx_code 270 94 = some (94, .aload_n 0, 95, 0, 0, 0) := by decide +kernel
theorem s270_94 {L : Nat} {xs : Nat → Int32} {d x : Nat} {M : qxM} {st : List Value} {a1 a2 a3 a4 a5 a6 a7 a8 : Option Value} {z : Nat} : Rs L xs (d) 270 94 [some (.ref z), a1, a2, a3, a4, a5, a6, a7, a8] st M x = Rs L xs (d) 270 95 [some (.ref z), a1, a2, a3, a4, a5, a6, a7, a8] (.ref z :: st) M x := Rs_next c270_94 rfl
theorem c270_95 : qx_code 270 95 = some (95, .getfield 37, 98, 8, 18, 1563) := by decide +kernel
theorem s270_95 {L : Nat} {xs : Nat → Int32} {d x : Nat} {M : qxM} {st : List Value} {ls : qxL} {t : Nat} (hk : qx_kd t = 18) : Rs L xs (d) 270 95 ls (.ref t :: st) M x = Rs L xs (d) 270 98 ls (.ref (t + 8) :: st) M x := Rs_when (qx_kd_obj (k := 8) (by decide) hk) c270_95 rfl
theorem c270_98 : qx_code 270 98 = some (98, .iload 7, 100, 0, 0, 0) := by decide +kernel
theorem s270_98 {L : Nat} {xs : Nat → Int32} {d x : Nat} {M : qxM} {st : List Value} {a0 a1 a2 a3 a4 a5 a6 a8 : Option Value} {z : Int32} : Rs L xs (d) 270 98 [a0, a1, a2, a3, a4, a5, a6, some (.int z), a8] st M x = Rs L xs (d) 270 100 [a0, a1, a2, a3, a4, a5, a6, some (.int z), a8] (.int z :: st) M x := Rs_next c270_98 rfl
theorem c270_100 : qx_code 270 100 = some (100, .iaload, 101, 0, 0, 0) := by decide +kernel
theorem s270_100 {L : Nat} {xs : Nat → Int32} {d x : Nat} {M : qxM} {st : List Value} {ls : qxL} {t : Nat} {j : Int32} (hk : qx_kd t = 0) (hj : qx_ib j (qx_ln t) = true) : Rs L xs (d) 270 100 ls (.int j :: .ref t :: st) M x = Rs L xs (d) 270 101 ls (.int (M.1 t j.toNatClampNeg) :: st) M x := by
  have h1 := qx_kd_row (k := 0) (by decide) hk
  exact Rs_unless (qx_ib_not hj) c270_100 (by unfold qx_act; dsimp only; rw [h1]; rfl)
theorem c270_101 : qx_code 270 101 = some (101, .iadd, 102, 0, 0, 0) := by decide +kernel
theorem s270_101 {L : Nat} {xs : Nat → Int32} {d x : Nat} {M : qxM} {st : List Value} {ls : qxL} {z y : Int32} : Rs L xs (d) 270 101 ls (.int y :: .int z :: st) M x = Rs L xs (d) 270 102 ls (.int (z + y) :: st) M x := Rs_next c270_101 rfl
theorem c270_102 : qx_code 270 102 = some (102, .istore 5, 104, 0, 0, 0) := by decide +kernel
theorem s270_102i {L : Nat} {xs : Nat → Int32} {d x : Nat} {M : qxM} {st : List Value} {a0 a1 a2 a3 a5 a6 a7 a8 : Option Value} {z : Int32} {y : Int32} : Rs L xs (d) 270 102 [a0, a1, a2, a3, some (.int y), a5, a6, a7, a8] (.int z :: st) M x = Rs L xs (d) 270 104 [a0, a1, a2, a3, some (.int y), some (.int z), a6, a7, a8] st M x := Rs_next c270_102 rfl
theorem s270_102r {L : Nat} {xs : Nat → Int32} {d x : Nat} {M : qxM} {st : List Value} {a0 a1 a2 a3 a5 a6 a7 a8 : Option Value} {z : Int32} {y : Nat} : Rs L xs (d) 270 102 [a0, a1, a2, a3, some (.ref y), a5, a6, a7, a8] (.int z :: st) M x = Rs L xs (d) 270 104 [a0, a1, a2, a3, some (.ref y), some (.int z), a6, a7, a8] st M x := Rs_next c270_102 rfl
theorem s270_102n {L : Nat} {xs : Nat → Int32} {d x : Nat} {M : qxM} {st : List Value} {a0 a1 a2 a3 a5 a6 a7 a8 : Option Value} {z : Int32} : Rs L xs (d) 270 102 [a0, a1, a2, a3, none, a5, a6, a7, a8] (.int z :: st) M x = Rs L xs (d) 270 104 [a0, a1, a2, a3, none, some (.int z), a6, a7, a8] st M x := Rs_next c270_102 rfl
theorem c270_104 : qx_code 270 104 = some (104, .iload 8, 106, 0, 0, 0) := by decide +kernel
theorem s270_104 {L : Nat} {xs : Nat → Int32} {d x : Nat} {M : qxM} {st : List Value} {a0 a1 a2 a3 a4 a5 a6 a7 : Option Value} {z : Int32} : Rs L xs (d) 270 104 [a0, a1, a2, a3, a4, a5, a6, a7, some (.int z)] st M x = Rs L xs (d) 270 106 [a0, a1, a2, a3, a4, a5, a6, a7, some (.int z)] (.int z :: st) M x := Rs_next c270_104 rfl
theorem c270_106 : qx_code 270 106 = some (106, .istore 4, 108, 0, 0, 0) := by decide +kernel
theorem s270_106i {L : Nat} {xs : Nat → Int32} {d x : Nat} {M : qxM} {st : List Value} {a0 a1 a2 a4 a5 a6 a7 a8 : Option Value} {z : Int32} {y : Int32} : Rs L xs (d) 270 106 [a0, a1, a2, some (.int y), a4, a5, a6, a7, a8] (.int z :: st) M x = Rs L xs (d) 270 108 [a0, a1, a2, some (.int y), some (.int z), a5, a6, a7, a8] st M x := Rs_next c270_106 rfl
theorem s270_106r {L : Nat} {xs : Nat → Int32} {d x : Nat} {M : qxM} {st : List Value} {a0 a1 a2 a4 a5 a6 a7 a8 : Option Value} {z : Int32} {y : Nat} : Rs L xs (d) 270 106 [a0, a1, a2, some (.ref y), a4, a5, a6, a7, a8] (.int z :: st) M x = Rs L xs (d) 270 108 [a0, a1, a2, some (.ref y), some (.int z), a5, a6, a7, a8] st M x := Rs_next c270_106 rfl
theorem s270_106n {L : Nat} {xs : Nat → Int32} {d x : Nat} {M : qxM} {st : List Value} {a0 a1 a2 a4 a5 a6 a7 a8 : Option Value} {z : Int32} : Rs L xs (d) 270 106 [a0, a1, a2, none, a4, a5, a6, a7, a8] (.int z :: st) M x = Rs L xs (d) 270 108 [a0, a1, a2, none, some (.int z), a5, a6, a7, a8] st M x := Rs_next c270_106 rfl
theorem c270_108 : qx_code 270 108 = some (108, .iload 6, 110, 0, 0, 0) := by decide +kernel
theorem s270_108 {L : Nat} {xs : Nat → Int32} {d x : Nat} {M : qxM} {st : List Value} {a0 a1 a2 a3 a4 a5 a7 a8 : Option Value} {z : Int32} : Rs L xs (d) 270 108 [a0, a1, a2, a3, a4, a5, some (.int z), a7, a8] st M x = Rs L xs (d) 270 110 [a0, a1, a2, a3, a4, a5, some (.int z), a7, a8] (.int z :: st) M x := Rs_next c270_108 rfl
theorem c270_110 : qx_code 270 110 = some (110, .iload 6, 112, 0, 0, 0) := by decide +kernel
theorem s270_110 {L : Nat} {xs : Nat → Int32} {d x : Nat} {M : qxM} {st : List Value} {a0 a1 a2 a3 a4 a5 a7 a8 : Option Value} {z : Int32} : Rs L xs (d) 270 110 [a0, a1, a2, a3, a4, a5, some (.int z), a7, a8] st M x = Rs L xs (d) 270 112 [a0, a1, a2, a3, a4, a5, some (.int z), a7, a8] (.int z :: st) M x := Rs_next c270_110 rfl
theorem c270_112 : qx_code 270 112 = some (112, .iconst 1, 113, 0, 0, 0) := by decide +kernel
theorem s270_112 {L : Nat} {xs : Nat → Int32} {d x : Nat} {M : qxM} {st : List Value} {ls : qxL} : Rs L xs (d) 270 112 ls st M x = Rs L xs (d) 270 113 ls (.int (nI 1) :: st) M x := Rs_next c270_112 rfl
theorem c270_113 : qx_code 270 113 = some (113, .isub, 114, 0, 0, 0) := by decide +kernel
theorem s270_113 {L : Nat} {xs : Nat → Int32} {d x : Nat} {M : qxM} {st : List Value} {ls : qxL} {z y : Int32} : Rs L xs (d) 270 113 ls (.int y :: .int z :: st) M x = Rs L xs (d) 270 114 ls (.int (z - y) :: st) M x := Rs_next c270_113 rfl
theorem c270_114 : qx_code 270 114 = some (114, .iand, 115, 0, 0, 0) := by decide +kernel
theorem s270_114 {L : Nat} {xs : Nat → Int32} {d x : Nat} {M : qxM} {st : List Value} {ls : qxL} {z y : Int32} : Rs L xs (d) 270 114 ls (.int y :: .int z :: st) M x = Rs L xs (d) 270 115 ls (.int (z &&& y) :: st) M x := Rs_next c270_114 rfl
theorem c270_115 : qx_code 270 115 = some (115, .istore 6, 117, 0, 0, 0) := by decide +kernel
theorem s270_115i {L : Nat} {xs : Nat → Int32} {d x : Nat} {M : qxM} {st : List Value} {a0 a1 a2 a3 a4 a6 a7 a8 : Option Value} {z : Int32} {y : Int32} : Rs L xs (d) 270 115 [a0, a1, a2, a3, a4, some (.int y), a6, a7, a8] (.int z :: st) M x = Rs L xs (d) 270 117 [a0, a1, a2, a3, a4, some (.int y), some (.int z), a7, a8] st M x := Rs_next c270_115 rfl
theorem s270_115r {L : Nat} {xs : Nat → Int32} {d x : Nat} {M : qxM} {st : List Value} {a0 a1 a2 a3 a4 a6 a7 a8 : Option Value} {z : Int32} {y : Nat} : Rs L xs (d) 270 115 [a0, a1, a2, a3, a4, some (.ref y), a6, a7, a8] (.int z :: st) M x = Rs L xs (d) 270 117 [a0, a1, a2, a3, a4, some (.ref y), some (.int z), a7, a8] st M x := Rs_next c270_115 rfl
theorem s270_115n {L : Nat} {xs : Nat → Int32} {d x : Nat} {M : qxM} {st : List Value} {a0 a1 a2 a3 a4 a6 a7 a8 : Option Value} {z : Int32} : Rs L xs (d) 270 115 [a0, a1, a2, a3, a4, none, a6, a7, a8] (.int z :: st) M x = Rs L xs (d) 270 117 [a0, a1, a2, a3, a4, none, some (.int z), a7, a8] st M x := Rs_next c270_115 rfl
theorem c270_117 : qx_code 270 117 = some (117, .goto (-80), 120, 37, 0, 0) := by decide +kernel
theorem s270_117 {L : Nat} {xs : Nat → Int32} {d x : Nat} {M : qxM} {st : List Value} {ls : qxL} : Rs L xs (d) 270 117 ls st M x = Rs L xs (d) 270 37 ls st M x := Rs_next c270_117 rfl
theorem c270_120 : qx_code 270 120 = some (120, .aload_n 0, 121, 0, 0, 0) := by decide +kernel
theorem s270_120 {L : Nat} {xs : Nat → Int32} {d x : Nat} {M : qxM} {st : List Value} {a1 a2 a3 a4 a5 a6 a7 a8 : Option Value} {z : Nat} : Rs L xs (d) 270 120 [some (.ref z), a1, a2, a3, a4, a5, a6, a7, a8] st M x = Rs L xs (d) 270 121 [some (.ref z), a1, a2, a3, a4, a5, a6, a7, a8] (.ref z :: st) M x := Rs_next c270_120 rfl
theorem c270_121 : qx_code 270 121 = some (121, .getfield 34, 124, 8, 17, 1562) := by decide +kernel
theorem s270_121 {L : Nat} {xs : Nat → Int32} {d x : Nat} {M : qxM} {st : List Value} {ls : qxL} {t : Nat} (hk : qx_kd t = 18) : Rs L xs (d) 270 121 ls (.ref t :: st) M x = Rs L xs (d) 270 124 ls (.ref (t + 7) :: st) M x := Rs_when (qx_kd_obj (k := 8) (by decide) hk) c270_121 rfl
theorem c270_124 : qx_code 270 124 = some (124, .iload_n 1, 125, 0, 0, 0) := by decide +kernel
theorem s270_124 {L : Nat} {xs : Nat → Int32} {d x : Nat} {M : qxM} {st : List Value} {a0 a2 a3 a4 a5 a6 a7 a8 : Option Value} {z : Int32} : Rs L xs (d) 270 124 [a0, some (.int z), a2, a3, a4, a5, a6, a7, a8] st M x = Rs L xs (d) 270 125 [a0, some (.int z), a2, a3, a4, a5, a6, a7, a8] (.int z :: st) M x := Rs_next c270_124 rfl
theorem c270_125 : qx_code 270 125 = some (125, .iload 4, 127, 0, 0, 0) := by decide +kernel
theorem s270_125 {L : Nat} {xs : Nat → Int32} {d x : Nat} {M : qxM} {st : List Value} {a0 a1 a2 a3 a5 a6 a7 a8 : Option Value} {z : Int32} : Rs L xs (d) 270 125 [a0, a1, a2, a3, some (.int z), a5, a6, a7, a8] st M x = Rs L xs (d) 270 127 [a0, a1, a2, a3, some (.int z), a5, a6, a7, a8] (.int z :: st) M x := Rs_next c270_125 rfl
theorem c270_127 : qx_code 270 127 = some (127, .i2b, 128, 0, 0, 0) := by decide +kernel
theorem s270_127 {L : Nat} {xs : Nat → Int32} {d x : Nat} {M : qxM} {st : List Value} {ls : qxL} {z : Int32} : Rs L xs (d) 270 127 ls (.int z :: st) M x = Rs L xs (d) 270 128 ls (.int z.toInt8.toInt32 :: st) M x := Rs_next c270_127 rfl
theorem c270_128 : qx_code 270 128 = some (128, .bastore, 129, 0, 0, 0) := by decide +kernel
theorem s270_128 {L : Nat} {xs : Nat → Int32} {d x : Nat} {M : qxM} {st : List Value} {ls : qxL} {t : Nat} {j : Int32} {z : Int32} (hk : qx_kd t = 1) (hj : qx_ib j (qx_ln t) = true) : Rs L xs (d) 270 128 ls (.int z :: .int j :: .ref t :: st) M x = Rs L xs (d) 270 129 ls st (qx_up M t j.toNatClampNeg z.toInt8.toInt32) x := by
  have h1 := qx_kd_row (k := 1) (by decide) hk
  exact Rs_unless (qx_ib_not hj) c270_128 (by unfold qx_act; dsimp only; rw [h1]; rfl)
theorem s270_128z {L : Nat} {xs : Nat → Int32} {d x : Nat} {M : qxM} {st : List Value} {ls : qxL} {t : Nat} {j : Int32} {z : Int32} (hk : qx_kd t = 2) (hj : qx_ib j (qx_ln t) = true) (h01 : z = 0 ∨ z = 1) : Rs L xs (d) 270 128 ls (.int z :: .int j :: .ref t :: st) M x = Rs L xs (d) 270 129 ls st (qx_up M t j.toNatClampNeg z) x := by
  have h1 := qx_kd_row (k := 2) (by decide) hk
  exact Rs_unless (qx_ib_not hj) c270_128 (by unfold qx_act; dsimp only; rw [h1]; first | (rw [if_pos h01]; rfl) | (simp only [if_pos h01]; rfl) | rfl)
theorem c270_129 : qx_code 270 129 = some (129, .aload_n 0, 130, 0, 0, 0) := by decide +kernel
theorem s270_129 {L : Nat} {xs : Nat → Int32} {d x : Nat} {M : qxM} {st : List Value} {a1 a2 a3 a4 a5 a6 a7 a8 : Option Value} {z : Nat} : Rs L xs (d) 270 129 [some (.ref z), a1, a2, a3, a4, a5, a6, a7, a8] st M x = Rs L xs (d) 270 130 [some (.ref z), a1, a2, a3, a4, a5, a6, a7, a8] (.ref z :: st) M x := Rs_next c270_129 rfl
theorem c270_130 : qx_code 270 130 = some (130, .getfield 37, 133, 8, 18, 1563) := by decide +kernel
theorem s270_130 {L : Nat} {xs : Nat → Int32} {d x : Nat} {M : qxM} {st : List Value} {ls : qxL} {t : Nat} (hk : qx_kd t = 18) : Rs L xs (d) 270 130 ls (.ref t :: st) M x = Rs L xs (d) 270 133 ls (.ref (t + 8) :: st) M x := Rs_when (qx_kd_obj (k := 8) (by decide) hk) c270_130 rfl
theorem c270_133 : qx_code 270 133 = some (133, .iload_n 1, 134, 0, 0, 0) := by decide +kernel
theorem s270_133 {L : Nat} {xs : Nat → Int32} {d x : Nat} {M : qxM} {st : List Value} {a0 a2 a3 a4 a5 a6 a7 a8 : Option Value} {z : Int32} : Rs L xs (d) 270 133 [a0, some (.int z), a2, a3, a4, a5, a6, a7, a8] st M x = Rs L xs (d) 270 134 [a0, some (.int z), a2, a3, a4, a5, a6, a7, a8] (.int z :: st) M x := Rs_next c270_133 rfl
theorem c270_134 : qx_code 270 134 = some (134, .iload 5, 136, 0, 0, 0) := by decide +kernel
theorem s270_134 {L : Nat} {xs : Nat → Int32} {d x : Nat} {M : qxM} {st : List Value} {a0 a1 a2 a3 a4 a6 a7 a8 : Option Value} {z : Int32} : Rs L xs (d) 270 134 [a0, a1, a2, a3, a4, some (.int z), a6, a7, a8] st M x = Rs L xs (d) 270 136 [a0, a1, a2, a3, a4, some (.int z), a6, a7, a8] (.int z :: st) M x := Rs_next c270_134 rfl
theorem c270_136 : qx_code 270 136 = some (136, .iastore, 137, 0, 0, 0) := by decide +kernel
theorem s270_136 {L : Nat} {xs : Nat → Int32} {d x : Nat} {M : qxM} {st : List Value} {ls : qxL} {t : Nat} {j : Int32} {z : Int32} (hk : qx_kd t = 0) (hj : qx_ib j (qx_ln t) = true) : Rs L xs (d) 270 136 ls (.int z :: .int j :: .ref t :: st) M x = Rs L xs (d) 270 137 ls st (qx_up M t j.toNatClampNeg z) x := by
  have h1 := qx_kd_row (k := 0) (by decide) hk
  exact Rs_unless (qx_ib_not hj) c270_136 (by unfold qx_act; dsimp only; rw [h1]; rfl)
theorem c270_137 : qx_code 270 137 = some (137, .return_, 138, 0, 0, 0) := by decide +kernel
theorem s270_137 {L : Nat} {xs : Nat → Int32} {d x : Nat} {M : qxM} {ls : qxL} : Rs L xs (d) 270 137 ls [] M x = some (.inl none, M, x) := Rs_ret c270_137 rfl
theorem c271_0 : qx_code 271 0 = some (0, .iconst 0, 1, 0, 0, 0) := by decide +kernel
theorem s271_0 {L : Nat} {xs : Nat → Int32} {d x : Nat} {M : qxM} {st : List Value} {ls : qxL} : Rs L xs (d) 271 0 ls st M x = Rs L xs (d) 271 1 ls (.int (nI 0) :: st) M x := Rs_next c271_0 rfl
theorem c271_1 : qx_code 271 1 = some (1, .istore_n 1, 2, 0, 0, 0) := by decide +kernel
theorem s271_1i {L : Nat} {xs : Nat → Int32} {d x : Nat} {M : qxM} {st : List Value} {a1 : Option Value} {z : Int32} {y : Int32} : Rs L xs (d) 271 1 [some (.int y), a1] (.int z :: st) M x = Rs L xs (d) 271 2 [some (.int y), some (.int z)] st M x := Rs_next c271_1 rfl
theorem s271_1r {L : Nat} {xs : Nat → Int32} {d x : Nat} {M : qxM} {st : List Value} {a1 : Option Value} {z : Int32} {y : Nat} : Rs L xs (d) 271 1 [some (.ref y), a1] (.int z :: st) M x = Rs L xs (d) 271 2 [some (.ref y), some (.int z)] st M x := Rs_next c271_1 rfl
theorem s271_1n {L : Nat} {xs : Nat → Int32} {d x : Nat} {M : qxM} {st : List Value} {a1 : Option Value} {z : Int32} : Rs L xs (d) 271 1 [none, a1] (.int z :: st) M x = Rs L xs (d) 271 2 [none, some (.int z)] st M x := Rs_next c271_1 rfl
theorem c271_2 : qx_code 271 2 = some (2, .iload_n 1, 3, 0, 0, 0) := by decide +kernel
theorem s271_2 {L : Nat} {xs : Nat → Int32} {d x : Nat} {M : qxM} {st : List Value} {a0 : Option Value} {z : Int32} : Rs L xs (d) 271 2 [a0, some (.int z)] st M x = Rs L xs (d) 271 3 [a0, some (.int z)] (.int z :: st) M x := Rs_next c271_2 rfl
theorem c271_3 : qx_code 271 3 = some (3, .aload_n 0, 4, 0, 0, 0) := by decide +kernel
theorem s271_3 {L : Nat} {xs : Nat → Int32} {d x : Nat} {M : qxM} {st : List Value} {a1 : Option Value} {z : Nat} : Rs L xs (d) 271 3 [some (.ref z), a1] st M x = Rs L xs (d) 271 4 [some (.ref z), a1] (.ref z :: st) M x := Rs_next c271_3 rfl
theorem c271_4 : qx_code 271 4 = some (4, .getfield 9, 7, 8, 1, 1546) := by decide +kernel
theorem s271_4 {L : Nat} {xs : Nat → Int32} {d x : Nat} {M : qxM} {st : List Value} {ls : qxL} {t : Nat} (hk : qx_kd t = 18) : Rs L xs (d) 271 4 ls (.ref t :: st) M x = Rs L xs (d) 271 7 ls (.ref (t + 1) :: st) M x := Rs_when (qx_kd_obj (k := 8) (by decide) hk) c271_4 rfl
theorem c271_7 : qx_code 271 7 = some (7, .iconst 0, 8, 0, 0, 0) := by decide +kernel
theorem s271_7 {L : Nat} {xs : Nat → Int32} {d x : Nat} {M : qxM} {st : List Value} {ls : qxL} : Rs L xs (d) 271 7 ls st M x = Rs L xs (d) 271 8 ls (.int (nI 0) :: st) M x := Rs_next c271_7 rfl
theorem c271_8 : qx_code 271 8 = some (8, .iaload, 9, 0, 0, 0) := by decide +kernel
theorem s271_8 {L : Nat} {xs : Nat → Int32} {d x : Nat} {M : qxM} {st : List Value} {ls : qxL} {t : Nat} {j : Int32} (hk : qx_kd t = 0) (hj : qx_ib j (qx_ln t) = true) : Rs L xs (d) 271 8 ls (.int j :: .ref t :: st) M x = Rs L xs (d) 271 9 ls (.int (M.1 t j.toNatClampNeg) :: st) M x := by
  have h1 := qx_kd_row (k := 0) (by decide) hk
  exact Rs_unless (qx_ib_not hj) c271_8 (by unfold qx_act; dsimp only; rw [h1]; rfl)
theorem c271_9 : qx_code 271 9 = some (9, .if_icmp .ge 20, 12, 29, 0, 0) := by decide +kernel
theorem s271_9 {L : Nat} {xs : Nat → Int32} {d x : Nat} {M : qxM} {st : List Value} {ls : qxL} {z y : Int32} : Rs L xs (d) 271 9 ls (.int y :: .int z :: st) M x = if y ≤ z then Rs L xs (d) 271 29 ls st M x else Rs L xs (d) 271 12 ls st M x := Rs_ite c271_9 rfl
theorem c271_12 : qx_code 271 12 = some (12, .aload_n 0, 13, 0, 0, 0) := by decide +kernel
theorem s271_12 {L : Nat} {xs : Nat → Int32} {d x : Nat} {M : qxM} {st : List Value} {a1 : Option Value} {z : Nat} : Rs L xs (d) 271 12 [some (.ref z), a1] st M x = Rs L xs (d) 271 13 [some (.ref z), a1] (.ref z :: st) M x := Rs_next c271_12 rfl
theorem c271_13 : qx_code 271 13 = some (13, .getfield 40, 16, 8, 19, 1564) := by decide +kernel
theorem s271_13 {L : Nat} {xs : Nat → Int32} {d x : Nat} {M : qxM} {st : List Value} {ls : qxL} {t : Nat} (hk : qx_kd t = 18) : Rs L xs (d) 271 13 ls (.ref t :: st) M x = Rs L xs (d) 271 16 ls (.ref (t + 9) :: st) M x := Rs_when (qx_kd_obj (k := 8) (by decide) hk) c271_13 rfl
theorem c271_16 : qx_code 271 16 = some (16, .iload_n 1, 17, 0, 0, 0) := by decide +kernel
theorem s271_16 {L : Nat} {xs : Nat → Int32} {d x : Nat} {M : qxM} {st : List Value} {a0 : Option Value} {z : Int32} : Rs L xs (d) 271 16 [a0, some (.int z)] st M x = Rs L xs (d) 271 17 [a0, some (.int z)] (.int z :: st) M x := Rs_next c271_16 rfl
theorem c271_17 : qx_code 271 17 = some (17, .aload_n 0, 18, 0, 0, 0) := by decide +kernel
theorem s271_17 {L : Nat} {xs : Nat → Int32} {d x : Nat} {M : qxM} {st : List Value} {a1 : Option Value} {z : Nat} : Rs L xs (d) 271 17 [some (.ref z), a1] st M x = Rs L xs (d) 271 18 [some (.ref z), a1] (.ref z :: st) M x := Rs_next c271_17 rfl
theorem c271_18 : qx_code 271 18 = some (18, .iload_n 1, 19, 0, 0, 0) := by decide +kernel
theorem s271_18 {L : Nat} {xs : Nat → Int32} {d x : Nat} {M : qxM} {st : List Value} {a0 : Option Value} {z : Int32} : Rs L xs (d) 271 18 [a0, some (.int z)] st M x = Rs L xs (d) 271 19 [a0, some (.int z)] (.int z :: st) M x := Rs_next c271_18 rfl
theorem c271_19 : qx_code 271 19 = some (19, .invokevirtual 210, 22, 220, 2, 1781) := by decide +kernel
theorem s271_19 {L : Nat} {xs : Nat → Int32} {d x : Nat} {M : qxM} {st : List Value} {ls : qxL} {t : Nat} {z0 : Int32} (hk : qx_kd t = 18) (hs : st.length ≤ 4) : Rs L xs (d + 1) 271 19 ls (.int z0 :: .ref t :: st) M x = (Rs L xs d 220 0 [some (.ref t), some (.int z0), none, none] [] M 0).bind (qx_kn L xs (d + 1) 271 19 22 220 ls st x) := by
  have h1 : qx_act L xs (qx_rt 271) (19, .invokevirtual 210, 22, 220, 2, 1781) ls (.int z0 :: .ref t :: st) M = if 2 ≤ (.int z0 :: .ref t :: st).length ∧ st.length ≤ 4 then some (.inr (.inr (.inr (220, [.ref t, .int z0], st)))) else none := rfl
  rw [if_pos ⟨by simp [List.length_cons]; try omega, hs⟩] at h1
  have h2 := qx_kd_obj (k := 8) (by decide) hk
  exact Rs_call c271_19 h1 (by rw [show qx_args 220 [.ref t, .int z0] = decide (qx_sh t = some (.inl 8)) from rfl]; exact decide_eq_true h2)
theorem c271_22 : qx_code 271 22 = some (22, .iastore, 23, 0, 0, 0) := by decide +kernel
theorem s271_22 {L : Nat} {xs : Nat → Int32} {d x : Nat} {M : qxM} {st : List Value} {ls : qxL} {t : Nat} {j : Int32} {z : Int32} (hk : qx_kd t = 0) (hj : qx_ib j (qx_ln t) = true) : Rs L xs (d) 271 22 ls (.int z :: .int j :: .ref t :: st) M x = Rs L xs (d) 271 23 ls st (qx_up M t j.toNatClampNeg z) x := by
  have h1 := qx_kd_row (k := 0) (by decide) hk
  exact Rs_unless (qx_ib_not hj) c271_22 (by unfold qx_act; dsimp only; rw [h1]; rfl)
theorem c271_23 : qx_code 271 23 = some (23, .iinc 1 1, 26, 0, 0, 0) := by decide +kernel
theorem s271_23i {L : Nat} {xs : Nat → Int32} {d x : Nat} {M : qxM} {st : List Value} {z : Int32} {y : Int32} : Rs L xs (d) 271 23 [some (.int y), some (.int z)] st M x = Rs L xs (d) 271 26 [some (.int y), some (.int (z + (nI 1)))] st M x := Rs_next c271_23 rfl
theorem s271_23r {L : Nat} {xs : Nat → Int32} {d x : Nat} {M : qxM} {st : List Value} {z : Int32} {y : Nat} : Rs L xs (d) 271 23 [some (.ref y), some (.int z)] st M x = Rs L xs (d) 271 26 [some (.ref y), some (.int (z + (nI 1)))] st M x := Rs_next c271_23 rfl
theorem s271_23n {L : Nat} {xs : Nat → Int32} {d x : Nat} {M : qxM} {st : List Value} {z : Int32} : Rs L xs (d) 271 23 [none, some (.int z)] st M x = Rs L xs (d) 271 26 [none, some (.int (z + (nI 1)))] st M x := Rs_next c271_23 rfl
theorem c271_26 : qx_code 271 26 = some (26, .goto (-24), 29, 2, 0, 0) := by decide +kernel
theorem s271_26 {L : Nat} {xs : Nat → Int32} {d x : Nat} {M : qxM} {st : List Value} {ls : qxL} : Rs L xs (d) 271 26 ls st M x = Rs L xs (d) 271 2 ls st M x := Rs_next c271_26 rfl
theorem c271_29 : qx_code 271 29 = some (29, .aload_n 0, 30, 0, 0, 0) := by decide +kernel
theorem s271_29 {L : Nat} {xs : Nat → Int32} {d x : Nat} {M : qxM} {st : List Value} {a1 : Option Value} {z : Nat} : Rs L xs (d) 271 29 [some (.ref z), a1] st M x = Rs L xs (d) 271 30 [some (.ref z), a1] (.ref z :: st) M x := Rs_next c271_29 rfl
theorem c271_30 : qx_code 271 30 = some (30, .getfield 34, 33, 8, 17, 1562) := by decide +kernel
theorem s271_30 {L : Nat} {xs : Nat → Int32} {d x : Nat} {M : qxM} {st : List Value} {ls : qxL} {t : Nat} (hk : qx_kd t = 18) : Rs L xs (d) 271 30 ls (.ref t :: st) M x = Rs L xs (d) 271 33 ls (.ref (t + 7) :: st) M x := Rs_when (qx_kd_obj (k := 8) (by decide) hk) c271_30 rfl
theorem c271_33 : qx_code 271 33 = some (33, .iconst 0, 34, 0, 0, 0) := by decide +kernel
theorem s271_33 {L : Nat} {xs : Nat → Int32} {d x : Nat} {M : qxM} {st : List Value} {ls : qxL} : Rs L xs (d) 271 33 ls st M x = Rs L xs (d) 271 34 ls (.int (nI 0) :: st) M x := Rs_next c271_33 rfl
theorem c271_34 : qx_code 271 34 = some (34, .iconst 0, 35, 0, 0, 0) := by decide +kernel
theorem s271_34 {L : Nat} {xs : Nat → Int32} {d x : Nat} {M : qxM} {st : List Value} {ls : qxL} : Rs L xs (d) 271 34 ls st M x = Rs L xs (d) 271 35 ls (.int (nI 0) :: st) M x := Rs_next c271_34 rfl
theorem c271_35 : qx_code 271 35 = some (35, .bastore, 36, 0, 0, 0) := by decide +kernel
theorem s271_35 {L : Nat} {xs : Nat → Int32} {d x : Nat} {M : qxM} {st : List Value} {ls : qxL} {t : Nat} {j : Int32} {z : Int32} (hk : qx_kd t = 1) (hj : qx_ib j (qx_ln t) = true) : Rs L xs (d) 271 35 ls (.int z :: .int j :: .ref t :: st) M x = Rs L xs (d) 271 36 ls st (qx_up M t j.toNatClampNeg z.toInt8.toInt32) x := by
  have h1 := qx_kd_row (k := 1) (by decide) hk
  exact Rs_unless (qx_ib_not hj) c271_35 (by unfold qx_act; dsimp only; rw [h1]; rfl)
theorem s271_35z {L : Nat} {xs : Nat → Int32} {d x : Nat} {M : qxM} {st : List Value} {ls : qxL} {t : Nat} {j : Int32} {z : Int32} (hk : qx_kd t = 2) (hj : qx_ib j (qx_ln t) = true) (h01 : z = 0 ∨ z = 1) : Rs L xs (d) 271 35 ls (.int z :: .int j :: .ref t :: st) M x = Rs L xs (d) 271 36 ls st (qx_up M t j.toNatClampNeg z) x := by
  have h1 := qx_kd_row (k := 2) (by decide) hk
  exact Rs_unless (qx_ib_not hj) c271_35 (by unfold qx_act; dsimp only; rw [h1]; first | (rw [if_pos h01]; rfl) | (simp only [if_pos h01]; rfl) | rfl)
theorem c271_36 : qx_code 271 36 = some (36, .aload_n 0, 37, 0, 0, 0) := by decide +kernel
theorem s271_36 {L : Nat} {xs : Nat → Int32} {d x : Nat} {M : qxM} {st : List Value} {a1 : Option Value} {z : Nat} : Rs L xs (d) 271 36 [some (.ref z), a1] st M x = Rs L xs (d) 271 37 [some (.ref z), a1] (.ref z :: st) M x := Rs_next c271_36 rfl
theorem c271_37 : qx_code 271 37 = some (37, .getfield 37, 40, 8, 18, 1563) := by decide +kernel
theorem s271_37 {L : Nat} {xs : Nat → Int32} {d x : Nat} {M : qxM} {st : List Value} {ls : qxL} {t : Nat} (hk : qx_kd t = 18) : Rs L xs (d) 271 37 ls (.ref t :: st) M x = Rs L xs (d) 271 40 ls (.ref (t + 8) :: st) M x := Rs_when (qx_kd_obj (k := 8) (by decide) hk) c271_37 rfl
theorem c271_40 : qx_code 271 40 = some (40, .iconst 0, 41, 0, 0, 0) := by decide +kernel
theorem s271_40 {L : Nat} {xs : Nat → Int32} {d x : Nat} {M : qxM} {st : List Value} {ls : qxL} : Rs L xs (d) 271 40 ls st M x = Rs L xs (d) 271 41 ls (.int (nI 0) :: st) M x := Rs_next c271_40 rfl
theorem c271_41 : qx_code 271 41 = some (41, .iconst 1, 42, 0, 0, 0) := by decide +kernel
theorem s271_41 {L : Nat} {xs : Nat → Int32} {d x : Nat} {M : qxM} {st : List Value} {ls : qxL} : Rs L xs (d) 271 41 ls st M x = Rs L xs (d) 271 42 ls (.int (nI 1) :: st) M x := Rs_next c271_41 rfl
theorem c271_42 : qx_code 271 42 = some (42, .iastore, 43, 0, 0, 0) := by decide +kernel
theorem s271_42 {L : Nat} {xs : Nat → Int32} {d x : Nat} {M : qxM} {st : List Value} {ls : qxL} {t : Nat} {j : Int32} {z : Int32} (hk : qx_kd t = 0) (hj : qx_ib j (qx_ln t) = true) : Rs L xs (d) 271 42 ls (.int z :: .int j :: .ref t :: st) M x = Rs L xs (d) 271 43 ls st (qx_up M t j.toNatClampNeg z) x := by
  have h1 := qx_kd_row (k := 0) (by decide) hk
  exact Rs_unless (qx_ib_not hj) c271_42 (by unfold qx_act; dsimp only; rw [h1]; rfl)
theorem c271_43 : qx_code 271 43 = some (43, .iconst 1, 44, 0, 0, 0) := by decide +kernel
theorem s271_43 {L : Nat} {xs : Nat → Int32} {d x : Nat} {M : qxM} {st : List Value} {ls : qxL} : Rs L xs (d) 271 43 ls st M x = Rs L xs (d) 271 44 ls (.int (nI 1) :: st) M x := Rs_next c271_43 rfl
theorem c271_44 : qx_code 271 44 = some (44, .istore_n 1, 45, 0, 0, 0) := by decide +kernel
theorem s271_44i {L : Nat} {xs : Nat → Int32} {d x : Nat} {M : qxM} {st : List Value} {a1 : Option Value} {z : Int32} {y : Int32} : Rs L xs (d) 271 44 [some (.int y), a1] (.int z :: st) M x = Rs L xs (d) 271 45 [some (.int y), some (.int z)] st M x := Rs_next c271_44 rfl
theorem s271_44r {L : Nat} {xs : Nat → Int32} {d x : Nat} {M : qxM} {st : List Value} {a1 : Option Value} {z : Int32} {y : Nat} : Rs L xs (d) 271 44 [some (.ref y), a1] (.int z :: st) M x = Rs L xs (d) 271 45 [some (.ref y), some (.int z)] st M x := Rs_next c271_44 rfl
theorem s271_44n {L : Nat} {xs : Nat → Int32} {d x : Nat} {M : qxM} {st : List Value} {a1 : Option Value} {z : Int32} : Rs L xs (d) 271 44 [none, a1] (.int z :: st) M x = Rs L xs (d) 271 45 [none, some (.int z)] st M x := Rs_next c271_44 rfl
theorem c271_45 : qx_code 271 45 = some (45, .iload_n 1, 46, 0, 0, 0) := by decide +kernel
theorem s271_45 {L : Nat} {xs : Nat → Int32} {d x : Nat} {M : qxM} {st : List Value} {a0 : Option Value} {z : Int32} : Rs L xs (d) 271 45 [a0, some (.int z)] st M x = Rs L xs (d) 271 46 [a0, some (.int z)] (.int z :: st) M x := Rs_next c271_45 rfl
theorem c271_46 : qx_code 271 46 = some (46, .aload_n 0, 47, 0, 0, 0) := by decide +kernel
theorem s271_46 {L : Nat} {xs : Nat → Int32} {d x : Nat} {M : qxM} {st : List Value} {a1 : Option Value} {z : Nat} : Rs L xs (d) 271 46 [some (.ref z), a1] st M x = Rs L xs (d) 271 47 [some (.ref z), a1] (.ref z :: st) M x := Rs_next c271_46 rfl
theorem c271_47 : qx_code 271 47 = some (47, .invokevirtual 312, 50, 212, 1, 1926) := by decide +kernel
theorem s271_47 {L : Nat} {xs : Nat → Int32} {d x : Nat} {M : qxM} {st : List Value} {ls : qxL} {t : Nat} (hk : qx_kd t = 18) (hs : st.length ≤ 4) : Rs L xs (d + 1) 271 47 ls (.ref t :: st) M x = (Rs L xs d 212 0 [some (.ref t)] [] M 0).bind (qx_kn L xs (d + 1) 271 47 50 212 ls st x) := by
  have h1 : qx_act L xs (qx_rt 271) (47, .invokevirtual 312, 50, 212, 1, 1926) ls (.ref t :: st) M = if 1 ≤ (.ref t :: st).length ∧ st.length ≤ 4 then some (.inr (.inr (.inr (212, [.ref t], st)))) else none := rfl
  rw [if_pos ⟨by simp [List.length_cons]; try omega, hs⟩] at h1
  have h2 := qx_kd_obj (k := 8) (by decide) hk
  exact Rs_call c271_47 h1 (by rw [show qx_args 212 [.ref t] = decide (qx_sh t = some (.inl 8)) from rfl]; exact decide_eq_true h2)
theorem c271_50 : qx_code 271 50 = some (50, .if_icmp .gt 14, 53, 64, 0, 0) := by decide +kernel
theorem s271_50 {L : Nat} {xs : Nat → Int32} {d x : Nat} {M : qxM} {st : List Value} {ls : qxL} {z y : Int32} : Rs L xs (d) 271 50 ls (.int y :: .int z :: st) M x = if y < z then Rs L xs (d) 271 64 ls st M x else Rs L xs (d) 271 53 ls st M x := Rs_ite c271_50 rfl
theorem c271_53 : qx_code 271 53 = some (53, .aload_n 0, 54, 0, 0, 0) := by decide +kernel
theorem s271_53 {L : Nat} {xs : Nat → Int32} {d x : Nat} {M : qxM} {st : List Value} {a1 : Option Value} {z : Nat} : Rs L xs (d) 271 53 [some (.ref z), a1] st M x = Rs L xs (d) 271 54 [some (.ref z), a1] (.ref z :: st) M x := Rs_next c271_53 rfl
theorem c271_54 : qx_code 271 54 = some (54, .iload_n 1, 55, 0, 0, 0) := by decide +kernel
theorem s271_54 {L : Nat} {xs : Nat → Int32} {d x : Nat} {M : qxM} {st : List Value} {a0 : Option Value} {z : Int32} : Rs L xs (d) 271 54 [a0, some (.int z)] st M x = Rs L xs (d) 271 55 [a0, some (.int z)] (.int z :: st) M x := Rs_next c271_54 rfl
theorem c271_55 : qx_code 271 55 = some (55, .invokevirtual 315, 58, 270, 2, 1930) := by decide +kernel
theorem s271_55 {L : Nat} {xs : Nat → Int32} {d x : Nat} {M : qxM} {st : List Value} {ls : qxL} {t : Nat} {z0 : Int32} (hk : qx_kd t = 18) (hs : st.length ≤ 4) : Rs L xs (d + 1) 271 55 ls (.int z0 :: .ref t :: st) M x = (Rs L xs d 270 0 [some (.ref t), some (.int z0), none, none, none, none, none, none, none] [] M 0).bind (qx_kn L xs (d + 1) 271 55 58 270 ls st x) := by
  have h1 : qx_act L xs (qx_rt 271) (55, .invokevirtual 315, 58, 270, 2, 1930) ls (.int z0 :: .ref t :: st) M = if 2 ≤ (.int z0 :: .ref t :: st).length ∧ st.length ≤ 4 then some (.inr (.inr (.inr (270, [.ref t, .int z0], st)))) else none := rfl
  rw [if_pos ⟨by simp [List.length_cons]; try omega, hs⟩] at h1
  have h2 := qx_kd_obj (k := 8) (by decide) hk
  exact Rs_call c271_55 h1 (by rw [show qx_args 270 [.ref t, .int z0] = decide (qx_sh t = some (.inl 8)) from rfl]; exact decide_eq_true h2)
theorem c271_58 : qx_code 271 58 = some (58, .iinc 1 1, 61, 0, 0, 0) := by decide +kernel
theorem s271_58i {L : Nat} {xs : Nat → Int32} {d x : Nat} {M : qxM} {st : List Value} {z : Int32} {y : Int32} : Rs L xs (d) 271 58 [some (.int y), some (.int z)] st M x = Rs L xs (d) 271 61 [some (.int y), some (.int (z + (nI 1)))] st M x := Rs_next c271_58 rfl
theorem s271_58r {L : Nat} {xs : Nat → Int32} {d x : Nat} {M : qxM} {st : List Value} {z : Int32} {y : Nat} : Rs L xs (d) 271 58 [some (.ref y), some (.int z)] st M x = Rs L xs (d) 271 61 [some (.ref y), some (.int (z + (nI 1)))] st M x := Rs_next c271_58 rfl
theorem s271_58n {L : Nat} {xs : Nat → Int32} {d x : Nat} {M : qxM} {st : List Value} {z : Int32} : Rs L xs (d) 271 58 [none, some (.int z)] st M x = Rs L xs (d) 271 61 [none, some (.int (z + (nI 1)))] st M x := Rs_next c271_58 rfl
theorem c271_61 : qx_code 271 61 = some (61, .goto (-16), 64, 45, 0, 0) := by decide +kernel
theorem s271_61 {L : Nat} {xs : Nat → Int32} {d x : Nat} {M : qxM} {st : List Value} {ls : qxL} : Rs L xs (d) 271 61 ls st M x = Rs L xs (d) 271 45 ls st M x := Rs_next c271_61 rfl
theorem c271_64 : qx_code 271 64 = some (64, .aload_n 0, 65, 0, 0, 0) := by decide +kernel
theorem s271_64 {L : Nat} {xs : Nat → Int32} {d x : Nat} {M : qxM} {st : List Value} {a1 : Option Value} {z : Nat} : Rs L xs (d) 271 64 [some (.ref z), a1] st M x = Rs L xs (d) 271 65 [some (.ref z), a1] (.ref z :: st) M x := Rs_next c271_64 rfl
theorem c271_65 : qx_code 271 65 = some (65, .getfield 34, 68, 8, 17, 1562) := by decide +kernel
theorem s271_65 {L : Nat} {xs : Nat → Int32} {d x : Nat} {M : qxM} {st : List Value} {ls : qxL} {t : Nat} (hk : qx_kd t = 18) : Rs L xs (d) 271 65 ls (.ref t :: st) M x = Rs L xs (d) 271 68 ls (.ref (t + 7) :: st) M x := Rs_when (qx_kd_obj (k := 8) (by decide) hk) c271_65 rfl
theorem c271_68 : qx_code 271 68 = some (68, .aload_n 0, 69, 0, 0, 0) := by decide +kernel
theorem s271_68 {L : Nat} {xs : Nat → Int32} {d x : Nat} {M : qxM} {st : List Value} {a1 : Option Value} {z : Nat} : Rs L xs (d) 271 68 [some (.ref z), a1] st M x = Rs L xs (d) 271 69 [some (.ref z), a1] (.ref z :: st) M x := Rs_next c271_68 rfl
theorem c271_69 : qx_code 271 69 = some (69, .invokevirtual 312, 72, 212, 1, 1926) := by decide +kernel
theorem s271_69 {L : Nat} {xs : Nat → Int32} {d x : Nat} {M : qxM} {st : List Value} {ls : qxL} {t : Nat} (hk : qx_kd t = 18) (hs : st.length ≤ 4) : Rs L xs (d + 1) 271 69 ls (.ref t :: st) M x = (Rs L xs d 212 0 [some (.ref t)] [] M 0).bind (qx_kn L xs (d + 1) 271 69 72 212 ls st x) := by
  have h1 : qx_act L xs (qx_rt 271) (69, .invokevirtual 312, 72, 212, 1, 1926) ls (.ref t :: st) M = if 1 ≤ (.ref t :: st).length ∧ st.length ≤ 4 then some (.inr (.inr (.inr (212, [.ref t], st)))) else none := rfl
  rw [if_pos ⟨by simp [List.length_cons]; try omega, hs⟩] at h1
  have h2 := qx_kd_obj (k := 8) (by decide) hk
  exact Rs_call c271_69 h1 (by rw [show qx_args 212 [.ref t] = decide (qx_sh t = some (.inl 8)) from rfl]; exact decide_eq_true h2)
theorem c271_72 : qx_code 271 72 = some (72, .baload, 73, 0, 0, 0) := by decide +kernel
theorem s271_72 {L : Nat} {xs : Nat → Int32} {d x : Nat} {M : qxM} {st : List Value} {ls : qxL} {t : Nat} {j : Int32} (hk : qx_kd t = 1) (hj : qx_ib j (qx_ln t) = true) : Rs L xs (d) 271 72 ls (.int j :: .ref t :: st) M x = Rs L xs (d) 271 73 ls (.int (M.1 t j.toNatClampNeg) :: st) M x := by
  have h1 := qx_kd_row (k := 1) (by decide) hk
  exact Rs_unless (qx_ib_not hj) c271_72 (by unfold qx_act; dsimp only; rw [h1]; rfl)
theorem s271_72z {L : Nat} {xs : Nat → Int32} {d x : Nat} {M : qxM} {st : List Value} {ls : qxL} {t : Nat} {j : Int32} (hk : qx_kd t = 2) (hj : qx_ib j (qx_ln t) = true) : Rs L xs (d) 271 72 ls (.int j :: .ref t :: st) M x = Rs L xs (d) 271 73 ls (.int (M.1 t j.toNatClampNeg) :: st) M x := by
  have h1 := qx_kd_row (k := 2) (by decide) hk
  exact Rs_unless (qx_ib_not hj) c271_72 (by unfold qx_act; dsimp only; rw [h1]; rfl)
theorem c271_73 : qx_code 271 73 = some (73, .ireturn, 74, 0, 0, 0) := by decide +kernel
theorem s271_73 {L : Nat} {xs : Nat → Int32} {d x : Nat} {M : qxM} {ls : qxL} {z : Int32} : Rs L xs (d) 271 73 ls [.int z] M x = some (.inl (some (.int z)), M, x) := Rs_ret c271_73 rfl
theorem c272_0 : qx_code 272 0 = some (0, .aload_n 0, 1, 0, 0, 0) := by decide +kernel
theorem s272_0 {L : Nat} {xs : Nat → Int32} {d x : Nat} {M : qxM} {st : List Value} {a1 : Option Value} {z : Nat} : Rs L xs (d) 272 0 [some (.ref z), a1] st M x = Rs L xs (d) 272 1 [some (.ref z), a1] (.ref z :: st) M x := Rs_next c272_0 rfl
theorem c272_1 : qx_code 272 1 = some (1, .getfield 34, 4, 8, 17, 1562) := by decide +kernel
theorem s272_1 {L : Nat} {xs : Nat → Int32} {d x : Nat} {M : qxM} {st : List Value} {ls : qxL} {t : Nat} (hk : qx_kd t = 18) : Rs L xs (d) 272 1 ls (.ref t :: st) M x = Rs L xs (d) 272 4 ls (.ref (t + 7) :: st) M x := Rs_when (qx_kd_obj (k := 8) (by decide) hk) c272_1 rfl
theorem c272_4 : qx_code 272 4 = some (4, .aload_n 0, 5, 0, 0, 0) := by decide +kernel
theorem s272_4 {L : Nat} {xs : Nat → Int32} {d x : Nat} {M : qxM} {st : List Value} {a1 : Option Value} {z : Nat} : Rs L xs (d) 272 4 [some (.ref z), a1] st M x = Rs L xs (d) 272 5 [some (.ref z), a1] (.ref z :: st) M x := Rs_next c272_4 rfl
theorem c272_5 : qx_code 272 5 = some (5, .invokevirtual 312, 8, 212, 1, 1926) := by decide +kernel
theorem s272_5 {L : Nat} {xs : Nat → Int32} {d x : Nat} {M : qxM} {st : List Value} {ls : qxL} {t : Nat} (hk : qx_kd t = 18) (hs : st.length ≤ 4) : Rs L xs (d + 1) 272 5 ls (.ref t :: st) M x = (Rs L xs d 212 0 [some (.ref t)] [] M 0).bind (qx_kn L xs (d + 1) 272 5 8 212 ls st x) := by
  have h1 : qx_act L xs (qx_rt 272) (5, .invokevirtual 312, 8, 212, 1, 1926) ls (.ref t :: st) M = if 1 ≤ (.ref t :: st).length ∧ st.length ≤ 4 then some (.inr (.inr (.inr (212, [.ref t], st)))) else none := rfl
  rw [if_pos ⟨by simp [List.length_cons]; try omega, hs⟩] at h1
  have h2 := qx_kd_obj (k := 8) (by decide) hk
  exact Rs_call c272_5 h1 (by rw [show qx_args 212 [.ref t] = decide (qx_sh t = some (.inl 8)) from rfl]; exact decide_eq_true h2)
theorem c272_8 : qx_code 272 8 = some (8, .iconst 1, 9, 0, 0, 0) := by decide +kernel
theorem s272_8 {L : Nat} {xs : Nat → Int32} {d x : Nat} {M : qxM} {st : List Value} {ls : qxL} : Rs L xs (d) 272 8 ls st M x = Rs L xs (d) 272 9 ls (.int (nI 1) :: st) M x := Rs_next c272_8 rfl
theorem c272_9 : qx_code 272 9 = some (9, .iload_n 1, 10, 0, 0, 0) := by decide +kernel
theorem s272_9 {L : Nat} {xs : Nat → Int32} {d x : Nat} {M : qxM} {st : List Value} {a0 : Option Value} {z : Int32} : Rs L xs (d) 272 9 [a0, some (.int z)] st M x = Rs L xs (d) 272 10 [a0, some (.int z)] (.int z :: st) M x := Rs_next c272_9 rfl
theorem c272_10 : qx_code 272 10 = some (10, .ishl, 11, 0, 0, 0) := by decide +kernel
theorem s272_10 {L : Nat} {xs : Nat → Int32} {d x : Nat} {M : qxM} {st : List Value} {ls : qxL} {z y : Int32} : Rs L xs (d) 272 10 ls (.int y :: .int z :: st) M x = Rs L xs (d) 272 11 ls (.int (z <<< (y &&& 31)) :: st) M x := Rs_next c272_10 rfl
theorem c272_11 : qx_code 272 11 = some (11, .iconst (-1), 12, 0, 0, 0) := by decide +kernel
theorem s272_11 {L : Nat} {xs : Nat → Int32} {d x : Nat} {M : qxM} {st : List Value} {ls : qxL} : Rs L xs (d) 272 11 ls st M x = Rs L xs (d) 272 12 ls (.int (-1) :: st) M x := Rs_next c272_11 rfl
theorem c272_12 : qx_code 272 12 = some (12, .ixor, 13, 0, 0, 0) := by decide +kernel
theorem s272_12 {L : Nat} {xs : Nat → Int32} {d x : Nat} {M : qxM} {st : List Value} {ls : qxL} {z y : Int32} : Rs L xs (d) 272 12 ls (.int y :: .int z :: st) M x = Rs L xs (d) 272 13 ls (.int (z ^^^ y) :: st) M x := Rs_next c272_12 rfl
theorem c272_13 : qx_code 272 13 = some (13, .iand, 14, 0, 0, 0) := by decide +kernel
theorem s272_13 {L : Nat} {xs : Nat → Int32} {d x : Nat} {M : qxM} {st : List Value} {ls : qxL} {z y : Int32} : Rs L xs (d) 272 13 ls (.int y :: .int z :: st) M x = Rs L xs (d) 272 14 ls (.int (z &&& y) :: st) M x := Rs_next c272_13 rfl
theorem c272_14 : qx_code 272 14 = some (14, .baload, 15, 0, 0, 0) := by decide +kernel
theorem s272_14 {L : Nat} {xs : Nat → Int32} {d x : Nat} {M : qxM} {st : List Value} {ls : qxL} {t : Nat} {j : Int32} (hk : qx_kd t = 1) (hj : qx_ib j (qx_ln t) = true) : Rs L xs (d) 272 14 ls (.int j :: .ref t :: st) M x = Rs L xs (d) 272 15 ls (.int (M.1 t j.toNatClampNeg) :: st) M x := by
  have h1 := qx_kd_row (k := 1) (by decide) hk
  exact Rs_unless (qx_ib_not hj) c272_14 (by unfold qx_act; dsimp only; rw [h1]; rfl)
theorem s272_14z {L : Nat} {xs : Nat → Int32} {d x : Nat} {M : qxM} {st : List Value} {ls : qxL} {t : Nat} {j : Int32} (hk : qx_kd t = 2) (hj : qx_ib j (qx_ln t) = true) : Rs L xs (d) 272 14 ls (.int j :: .ref t :: st) M x = Rs L xs (d) 272 15 ls (.int (M.1 t j.toNatClampNeg) :: st) M x := by
  have h1 := qx_kd_row (k := 2) (by decide) hk
  exact Rs_unless (qx_ib_not hj) c272_14 (by unfold qx_act; dsimp only; rw [h1]; rfl)
theorem c272_15 : qx_code 272 15 = some (15, .ireturn, 16, 0, 0, 0) := by decide +kernel
theorem s272_15 {L : Nat} {xs : Nat → Int32} {d x : Nat} {M : qxM} {ls : qxL} {z : Int32} : Rs L xs (d) 272 15 ls [.int z] M x = some (.inl (some (.int z)), M, x) := Rs_ret c272_15 rfl
theorem c273_0 : qx_code 273 0 = some (0, .aload_n 0, 1, 0, 0, 0) := by decide +kernel
theorem s273_0 {L : Nat} {xs : Nat → Int32} {d x : Nat} {M : qxM} {st : List Value} {a1 a2 a3 : Option Value} {z : Nat} : Rs L xs (d) 273 0 [some (.ref z), a1, a2, a3] st M x = Rs L xs (d) 273 1 [some (.ref z), a1, a2, a3] (.ref z :: st) M x := Rs_next c273_0 rfl
theorem c273_1 : qx_code 273 1 = some (1, .invokevirtual 318, 4, 271, 1, 1922) := by decide +kernel
theorem s273_1 {L : Nat} {xs : Nat → Int32} {d x : Nat} {M : qxM} {st : List Value} {ls : qxL} {t : Nat} (hk : qx_kd t = 18) (hs : st.length ≤ 4) : Rs L xs (d + 1) 273 1 ls (.ref t :: st) M x = (Rs L xs d 271 0 [some (.ref t), none] [] M 0).bind (qx_kn L xs (d + 1) 273 1 4 271 ls st x) := by
  have h1 : qx_act L xs (qx_rt 273) (1, .invokevirtual 318, 4, 271, 1, 1922) ls (.ref t :: st) M = if 1 ≤ (.ref t :: st).length ∧ st.length ≤ 4 then some (.inr (.inr (.inr (271, [.ref t], st)))) else none := rfl
  rw [if_pos ⟨by simp [List.length_cons]; try omega, hs⟩] at h1
  have h2 := qx_kd_obj (k := 8) (by decide) hk
  exact Rs_call c273_1 h1 (by rw [show qx_args 271 [.ref t] = decide (qx_sh t = some (.inl 8)) from rfl]; exact decide_eq_true h2)
theorem c273_4 : qx_code 273 4 = some (4, .istore_n 1, 5, 0, 0, 0) := by decide +kernel
theorem s273_4i {L : Nat} {xs : Nat → Int32} {d x : Nat} {M : qxM} {st : List Value} {a1 a2 a3 : Option Value} {z : Int32} {y : Int32} : Rs L xs (d) 273 4 [some (.int y), a1, a2, a3] (.int z :: st) M x = Rs L xs (d) 273 5 [some (.int y), some (.int z), a2, a3] st M x := Rs_next c273_4 rfl
theorem s273_4r {L : Nat} {xs : Nat → Int32} {d x : Nat} {M : qxM} {st : List Value} {a1 a2 a3 : Option Value} {z : Int32} {y : Nat} : Rs L xs (d) 273 4 [some (.ref y), a1, a2, a3] (.int z :: st) M x = Rs L xs (d) 273 5 [some (.ref y), some (.int z), a2, a3] st M x := Rs_next c273_4 rfl
theorem s273_4n {L : Nat} {xs : Nat → Int32} {d x : Nat} {M : qxM} {st : List Value} {a1 a2 a3 : Option Value} {z : Int32} : Rs L xs (d) 273 4 [none, a1, a2, a3] (.int z :: st) M x = Rs L xs (d) 273 5 [none, some (.int z), a2, a3] st M x := Rs_next c273_4 rfl
theorem c273_5 : qx_code 273 5 = some (5, .iconst 0, 6, 0, 0, 0) := by decide +kernel
theorem s273_5 {L : Nat} {xs : Nat → Int32} {d x : Nat} {M : qxM} {st : List Value} {ls : qxL} : Rs L xs (d) 273 5 ls st M x = Rs L xs (d) 273 6 ls (.int (nI 0) :: st) M x := Rs_next c273_5 rfl
theorem c273_6 : qx_code 273 6 = some (6, .istore_n 2, 7, 0, 0, 0) := by decide +kernel
theorem s273_6i {L : Nat} {xs : Nat → Int32} {d x : Nat} {M : qxM} {st : List Value} {a0 a2 a3 : Option Value} {z : Int32} {y : Int32} : Rs L xs (d) 273 6 [a0, some (.int y), a2, a3] (.int z :: st) M x = Rs L xs (d) 273 7 [a0, some (.int y), some (.int z), a3] st M x := Rs_next c273_6 rfl
theorem s273_6r {L : Nat} {xs : Nat → Int32} {d x : Nat} {M : qxM} {st : List Value} {a0 a2 a3 : Option Value} {z : Int32} {y : Nat} : Rs L xs (d) 273 6 [a0, some (.ref y), a2, a3] (.int z :: st) M x = Rs L xs (d) 273 7 [a0, some (.ref y), some (.int z), a3] st M x := Rs_next c273_6 rfl
theorem s273_6n {L : Nat} {xs : Nat → Int32} {d x : Nat} {M : qxM} {st : List Value} {a0 a2 a3 : Option Value} {z : Int32} : Rs L xs (d) 273 6 [a0, none, a2, a3] (.int z :: st) M x = Rs L xs (d) 273 7 [a0, none, some (.int z), a3] st M x := Rs_next c273_6 rfl
theorem c273_7 : qx_code 273 7 = some (7, .iconst 0, 8, 0, 0, 0) := by decide +kernel
theorem s273_7 {L : Nat} {xs : Nat → Int32} {d x : Nat} {M : qxM} {st : List Value} {ls : qxL} : Rs L xs (d) 273 7 ls st M x = Rs L xs (d) 273 8 ls (.int (nI 0) :: st) M x := Rs_next c273_7 rfl
theorem c273_8 : qx_code 273 8 = some (8, .istore_n 3, 9, 0, 0, 0) := by decide +kernel
theorem s273_8i {L : Nat} {xs : Nat → Int32} {d x : Nat} {M : qxM} {st : List Value} {a0 a1 a3 : Option Value} {z : Int32} {y : Int32} : Rs L xs (d) 273 8 [a0, a1, some (.int y), a3] (.int z :: st) M x = Rs L xs (d) 273 9 [a0, a1, some (.int y), some (.int z)] st M x := Rs_next c273_8 rfl
theorem s273_8r {L : Nat} {xs : Nat → Int32} {d x : Nat} {M : qxM} {st : List Value} {a0 a1 a3 : Option Value} {z : Int32} {y : Nat} : Rs L xs (d) 273 8 [a0, a1, some (.ref y), a3] (.int z :: st) M x = Rs L xs (d) 273 9 [a0, a1, some (.ref y), some (.int z)] st M x := Rs_next c273_8 rfl
theorem s273_8n {L : Nat} {xs : Nat → Int32} {d x : Nat} {M : qxM} {st : List Value} {a0 a1 a3 : Option Value} {z : Int32} : Rs L xs (d) 273 8 [a0, a1, none, a3] (.int z :: st) M x = Rs L xs (d) 273 9 [a0, a1, none, some (.int z)] st M x := Rs_next c273_8 rfl
theorem c273_9 : qx_code 273 9 = some (9, .iload_n 3, 10, 0, 0, 0) := by decide +kernel
theorem s273_9 {L : Nat} {xs : Nat → Int32} {d x : Nat} {M : qxM} {st : List Value} {a0 a1 a2 : Option Value} {z : Int32} : Rs L xs (d) 273 9 [a0, a1, a2, some (.int z)] st M x = Rs L xs (d) 273 10 [a0, a1, a2, some (.int z)] (.int z :: st) M x := Rs_next c273_9 rfl
theorem c273_10 : qx_code 273 10 = some (10, .aload_n 0, 11, 0, 0, 0) := by decide +kernel
theorem s273_10 {L : Nat} {xs : Nat → Int32} {d x : Nat} {M : qxM} {st : List Value} {a1 a2 a3 : Option Value} {z : Nat} : Rs L xs (d) 273 10 [some (.ref z), a1, a2, a3] st M x = Rs L xs (d) 273 11 [some (.ref z), a1, a2, a3] (.ref z :: st) M x := Rs_next c273_10 rfl
theorem c273_11 : qx_code 273 11 = some (11, .getfield 9, 14, 8, 1, 1546) := by decide +kernel
theorem s273_11 {L : Nat} {xs : Nat → Int32} {d x : Nat} {M : qxM} {st : List Value} {ls : qxL} {t : Nat} (hk : qx_kd t = 18) : Rs L xs (d) 273 11 ls (.ref t :: st) M x = Rs L xs (d) 273 14 ls (.ref (t + 1) :: st) M x := Rs_when (qx_kd_obj (k := 8) (by decide) hk) c273_11 rfl
theorem c273_14 : qx_code 273 14 = some (14, .iconst 0, 15, 0, 0, 0) := by decide +kernel
theorem s273_14 {L : Nat} {xs : Nat → Int32} {d x : Nat} {M : qxM} {st : List Value} {ls : qxL} : Rs L xs (d) 273 14 ls st M x = Rs L xs (d) 273 15 ls (.int (nI 0) :: st) M x := Rs_next c273_14 rfl
theorem c273_15 : qx_code 273 15 = some (15, .iaload, 16, 0, 0, 0) := by decide +kernel
theorem s273_15 {L : Nat} {xs : Nat → Int32} {d x : Nat} {M : qxM} {st : List Value} {ls : qxL} {t : Nat} {j : Int32} (hk : qx_kd t = 0) (hj : qx_ib j (qx_ln t) = true) : Rs L xs (d) 273 15 ls (.int j :: .ref t :: st) M x = Rs L xs (d) 273 16 ls (.int (M.1 t j.toNatClampNeg) :: st) M x := by
  have h1 := qx_kd_row (k := 0) (by decide) hk
  exact Rs_unless (qx_ib_not hj) c273_15 (by unfold qx_act; dsimp only; rw [h1]; rfl)
theorem c273_16 : qx_code 273 16 = some (16, .if_icmp .ge 31, 19, 47, 0, 0) := by decide +kernel
theorem s273_16 {L : Nat} {xs : Nat → Int32} {d x : Nat} {M : qxM} {st : List Value} {ls : qxL} {z y : Int32} : Rs L xs (d) 273 16 ls (.int y :: .int z :: st) M x = if y ≤ z then Rs L xs (d) 273 47 ls st M x else Rs L xs (d) 273 19 ls st M x := Rs_ite c273_16 rfl
theorem c273_19 : qx_code 273 19 = some (19, .iload_n 2, 20, 0, 0, 0) := by decide +kernel
theorem s273_19 {L : Nat} {xs : Nat → Int32} {d x : Nat} {M : qxM} {st : List Value} {a0 a1 a3 : Option Value} {z : Int32} : Rs L xs (d) 273 19 [a0, a1, some (.int z), a3] st M x = Rs L xs (d) 273 20 [a0, a1, some (.int z), a3] (.int z :: st) M x := Rs_next c273_19 rfl
theorem c273_20 : qx_code 273 20 = some (20, .aload_n 0, 21, 0, 0, 0) := by decide +kernel
theorem s273_20 {L : Nat} {xs : Nat → Int32} {d x : Nat} {M : qxM} {st : List Value} {a1 a2 a3 : Option Value} {z : Nat} : Rs L xs (d) 273 20 [some (.ref z), a1, a2, a3] st M x = Rs L xs (d) 273 21 [some (.ref z), a1, a2, a3] (.ref z :: st) M x := Rs_next c273_20 rfl
theorem c273_21 : qx_code 273 21 = some (21, .iload_n 3, 22, 0, 0, 0) := by decide +kernel
theorem s273_21 {L : Nat} {xs : Nat → Int32} {d x : Nat} {M : qxM} {st : List Value} {a0 a1 a2 : Option Value} {z : Int32} : Rs L xs (d) 273 21 [a0, a1, a2, some (.int z)] st M x = Rs L xs (d) 273 22 [a0, a1, a2, some (.int z)] (.int z :: st) M x := Rs_next c273_21 rfl
theorem c273_22 : qx_code 273 22 = some (22, .invokevirtual 321, 25, 272, 2, 1950) := by decide +kernel
theorem s273_22 {L : Nat} {xs : Nat → Int32} {d x : Nat} {M : qxM} {st : List Value} {ls : qxL} {t : Nat} {z0 : Int32} (hk : qx_kd t = 18) (hs : st.length ≤ 4) : Rs L xs (d + 1) 273 22 ls (.int z0 :: .ref t :: st) M x = (Rs L xs d 272 0 [some (.ref t), some (.int z0)] [] M 0).bind (qx_kn L xs (d + 1) 273 22 25 272 ls st x) := by
  have h1 : qx_act L xs (qx_rt 273) (22, .invokevirtual 321, 25, 272, 2, 1950) ls (.int z0 :: .ref t :: st) M = if 2 ≤ (.int z0 :: .ref t :: st).length ∧ st.length ≤ 4 then some (.inr (.inr (.inr (272, [.ref t, .int z0], st)))) else none := rfl
  rw [if_pos ⟨by simp [List.length_cons]; try omega, hs⟩] at h1
  have h2 := qx_kd_obj (k := 8) (by decide) hk
  exact Rs_call c273_22 h1 (by rw [show qx_args 272 [.ref t, .int z0] = decide (qx_sh t = some (.inl 8)) from rfl]; exact decide_eq_true h2)
theorem c273_25 : qx_code 273 25 = some (25, .iload_n 1, 26, 0, 0, 0) := by decide +kernel
theorem s273_25 {L : Nat} {xs : Nat → Int32} {d x : Nat} {M : qxM} {st : List Value} {a0 a2 a3 : Option Value} {z : Int32} : Rs L xs (d) 273 25 [a0, some (.int z), a2, a3] st M x = Rs L xs (d) 273 26 [a0, some (.int z), a2, a3] (.int z :: st) M x := Rs_next c273_25 rfl
theorem c273_26 : qx_code 273 26 = some (26, .if_icmp .ne 7, 29, 33, 0, 0) := by decide +kernel
theorem s273_26 {L : Nat} {xs : Nat → Int32} {d x : Nat} {M : qxM} {st : List Value} {ls : qxL} {z y : Int32} : Rs L xs (d) 273 26 ls (.int y :: .int z :: st) M x = if z = y then Rs L xs (d) 273 29 ls st M x else Rs L xs (d) 273 33 ls st M x := Rs_ite c273_26 rfl
theorem c273_29 : qx_code 273 29 = some (29, .iconst 1, 30, 0, 0, 0) := by decide +kernel
theorem s273_29 {L : Nat} {xs : Nat → Int32} {d x : Nat} {M : qxM} {st : List Value} {ls : qxL} : Rs L xs (d) 273 29 ls st M x = Rs L xs (d) 273 30 ls (.int (nI 1) :: st) M x := Rs_next c273_29 rfl
theorem c273_30 : qx_code 273 30 = some (30, .goto 4, 33, 34, 0, 0) := by decide +kernel
theorem s273_30 {L : Nat} {xs : Nat → Int32} {d x : Nat} {M : qxM} {st : List Value} {ls : qxL} : Rs L xs (d) 273 30 ls st M x = Rs L xs (d) 273 34 ls st M x := Rs_next c273_30 rfl
theorem c273_33 : qx_code 273 33 = some (33, .iconst 0, 34, 0, 0, 0) := by decide +kernel
theorem s273_33 {L : Nat} {xs : Nat → Int32} {d x : Nat} {M : qxM} {st : List Value} {ls : qxL} : Rs L xs (d) 273 33 ls st M x = Rs L xs (d) 273 34 ls (.int (nI 0) :: st) M x := Rs_next c273_33 rfl
theorem c273_34 : qx_code 273 34 = some (34, .invokestatic 203, 37, 179, 1, 1785) := by decide +kernel
theorem s273_34 {L : Nat} {xs : Nat → Int32} {d x : Nat} {M : qxM} {st : List Value} {ls : qxL} {z0 : Int32} (hs : st.length ≤ 4) : Rs L xs (d + 1) 273 34 ls (.int z0 :: st) M x = (Rs L xs d 179 0 [some (.int z0)] [] M 0).bind (qx_kn L xs (d + 1) 273 34 37 179 ls st x) := by
  have h1 : qx_act L xs (qx_rt 273) (34, .invokestatic 203, 37, 179, 1, 1785) ls (.int z0 :: st) M = if 1 ≤ (.int z0 :: st).length ∧ st.length ≤ 4 then some (.inr (.inr (.inr (179, [.int z0], st)))) else none := rfl
  rw [if_pos ⟨by simp [List.length_cons]; try omega, hs⟩] at h1
  exact Rs_call c273_34 h1 rfl
theorem c273_37 : qx_code 273 37 = some (37, .iload_n 3, 38, 0, 0, 0) := by decide +kernel
theorem s273_37 {L : Nat} {xs : Nat → Int32} {d x : Nat} {M : qxM} {st : List Value} {a0 a1 a2 : Option Value} {z : Int32} : Rs L xs (d) 273 37 [a0, a1, a2, some (.int z)] st M x = Rs L xs (d) 273 38 [a0, a1, a2, some (.int z)] (.int z :: st) M x := Rs_next c273_37 rfl
theorem c273_38 : qx_code 273 38 = some (38, .ishl, 39, 0, 0, 0) := by decide +kernel
theorem s273_38 {L : Nat} {xs : Nat → Int32} {d x : Nat} {M : qxM} {st : List Value} {ls : qxL} {z y : Int32} : Rs L xs (d) 273 38 ls (.int y :: .int z :: st) M x = Rs L xs (d) 273 39 ls (.int (z <<< (y &&& 31)) :: st) M x := Rs_next c273_38 rfl
theorem c273_39 : qx_code 273 39 = some (39, .ior, 40, 0, 0, 0) := by decide +kernel
theorem s273_39 {L : Nat} {xs : Nat → Int32} {d x : Nat} {M : qxM} {st : List Value} {ls : qxL} {z y : Int32} : Rs L xs (d) 273 39 ls (.int y :: .int z :: st) M x = Rs L xs (d) 273 40 ls (.int (z ||| y) :: st) M x := Rs_next c273_39 rfl
theorem c273_40 : qx_code 273 40 = some (40, .istore_n 2, 41, 0, 0, 0) := by decide +kernel
theorem s273_40i {L : Nat} {xs : Nat → Int32} {d x : Nat} {M : qxM} {st : List Value} {a0 a2 a3 : Option Value} {z : Int32} {y : Int32} : Rs L xs (d) 273 40 [a0, some (.int y), a2, a3] (.int z :: st) M x = Rs L xs (d) 273 41 [a0, some (.int y), some (.int z), a3] st M x := Rs_next c273_40 rfl
theorem s273_40r {L : Nat} {xs : Nat → Int32} {d x : Nat} {M : qxM} {st : List Value} {a0 a2 a3 : Option Value} {z : Int32} {y : Nat} : Rs L xs (d) 273 40 [a0, some (.ref y), a2, a3] (.int z :: st) M x = Rs L xs (d) 273 41 [a0, some (.ref y), some (.int z), a3] st M x := Rs_next c273_40 rfl
theorem s273_40n {L : Nat} {xs : Nat → Int32} {d x : Nat} {M : qxM} {st : List Value} {a0 a2 a3 : Option Value} {z : Int32} : Rs L xs (d) 273 40 [a0, none, a2, a3] (.int z :: st) M x = Rs L xs (d) 273 41 [a0, none, some (.int z), a3] st M x := Rs_next c273_40 rfl
theorem c273_41 : qx_code 273 41 = some (41, .iinc 3 1, 44, 0, 0, 0) := by decide +kernel
theorem s273_41i {L : Nat} {xs : Nat → Int32} {d x : Nat} {M : qxM} {st : List Value} {a0 a1 : Option Value} {z : Int32} {y : Int32} : Rs L xs (d) 273 41 [a0, a1, some (.int y), some (.int z)] st M x = Rs L xs (d) 273 44 [a0, a1, some (.int y), some (.int (z + (nI 1)))] st M x := Rs_next c273_41 rfl
theorem s273_41r {L : Nat} {xs : Nat → Int32} {d x : Nat} {M : qxM} {st : List Value} {a0 a1 : Option Value} {z : Int32} {y : Nat} : Rs L xs (d) 273 41 [a0, a1, some (.ref y), some (.int z)] st M x = Rs L xs (d) 273 44 [a0, a1, some (.ref y), some (.int (z + (nI 1)))] st M x := Rs_next c273_41 rfl
theorem s273_41n {L : Nat} {xs : Nat → Int32} {d x : Nat} {M : qxM} {st : List Value} {a0 a1 : Option Value} {z : Int32} : Rs L xs (d) 273 41 [a0, a1, none, some (.int z)] st M x = Rs L xs (d) 273 44 [a0, a1, none, some (.int (z + (nI 1)))] st M x := Rs_next c273_41 rfl
theorem c273_44 : qx_code 273 44 = some (44, .goto (-35), 47, 9, 0, 0) := by decide +kernel
theorem s273_44 {L : Nat} {xs : Nat → Int32} {d x : Nat} {M : qxM} {st : List Value} {ls : qxL} : Rs L xs (d) 273 44 ls st M x = Rs L xs (d) 273 9 ls st M x := Rs_next c273_44 rfl
theorem c273_47 : qx_code 273 47 = some (47, .iload_n 2, 48, 0, 0, 0) := by decide +kernel
theorem s273_47 {L : Nat} {xs : Nat → Int32} {d x : Nat} {M : qxM} {st : List Value} {a0 a1 a3 : Option Value} {z : Int32} : Rs L xs (d) 273 47 [a0, a1, some (.int z), a3] st M x = Rs L xs (d) 273 48 [a0, a1, some (.int z), a3] (.int z :: st) M x := Rs_next c273_47 rfl
theorem c273_48 : qx_code 273 48 = some (48, .ireturn, 49, 0, 0, 0) := by decide +kernel
theorem s273_48 {L : Nat} {xs : Nat → Int32} {d x : Nat} {M : qxM} {ls : qxL} {z : Int32} : Rs L xs (d) 273 48 ls [.int z] M x = some (.inl (some (.int z)), M, x) := Rs_ret c273_48 rfl
theorem c274_0 : qx_code 274 0 = some (0, .iconst 0, 1, 0, 0, 0) := by decide +kernel
theorem s274_0 {L : Nat} {xs : Nat → Int32} {d x : Nat} {M : qxM} {st : List Value} {ls : qxL} : Rs L xs (d) 274 0 ls st M x = Rs L xs (d) 274 1 ls (.int (nI 0) :: st) M x := Rs_next c274_0 rfl
theorem c274_1 : qx_code 274 1 = some (1, .istore_n 2, 2, 0, 0, 0) := by decide +kernel
theorem s274_1i {L : Nat} {xs : Nat → Int32} {d x : Nat} {M : qxM} {st : List Value} {a0 a2 a3 : Option Value} {z : Int32} {y : Int32} : Rs L xs (d) 274 1 [a0, some (.int y), a2, a3] (.int z :: st) M x = Rs L xs (d) 274 2 [a0, some (.int y), some (.int z), a3] st M x := Rs_next c274_1 rfl
theorem s274_1r {L : Nat} {xs : Nat → Int32} {d x : Nat} {M : qxM} {st : List Value} {a0 a2 a3 : Option Value} {z : Int32} {y : Nat} : Rs L xs (d) 274 1 [a0, some (.ref y), a2, a3] (.int z :: st) M x = Rs L xs (d) 274 2 [a0, some (.ref y), some (.int z), a3] st M x := Rs_next c274_1 rfl
theorem s274_1n {L : Nat} {xs : Nat → Int32} {d x : Nat} {M : qxM} {st : List Value} {a0 a2 a3 : Option Value} {z : Int32} : Rs L xs (d) 274 1 [a0, none, a2, a3] (.int z :: st) M x = Rs L xs (d) 274 2 [a0, none, some (.int z), a3] st M x := Rs_next c274_1 rfl
theorem c274_2 : qx_code 274 2 = some (2, .iconst 0, 3, 0, 0, 0) := by decide +kernel
theorem s274_2 {L : Nat} {xs : Nat → Int32} {d x : Nat} {M : qxM} {st : List Value} {ls : qxL} : Rs L xs (d) 274 2 ls st M x = Rs L xs (d) 274 3 ls (.int (nI 0) :: st) M x := Rs_next c274_2 rfl
theorem c274_3 : qx_code 274 3 = some (3, .istore_n 3, 4, 0, 0, 0) := by decide +kernel
theorem s274_3i {L : Nat} {xs : Nat → Int32} {d x : Nat} {M : qxM} {st : List Value} {a0 a1 a3 : Option Value} {z : Int32} {y : Int32} : Rs L xs (d) 274 3 [a0, a1, some (.int y), a3] (.int z :: st) M x = Rs L xs (d) 274 4 [a0, a1, some (.int y), some (.int z)] st M x := Rs_next c274_3 rfl
theorem s274_3r {L : Nat} {xs : Nat → Int32} {d x : Nat} {M : qxM} {st : List Value} {a0 a1 a3 : Option Value} {z : Int32} {y : Nat} : Rs L xs (d) 274 3 [a0, a1, some (.ref y), a3] (.int z :: st) M x = Rs L xs (d) 274 4 [a0, a1, some (.ref y), some (.int z)] st M x := Rs_next c274_3 rfl
theorem s274_3n {L : Nat} {xs : Nat → Int32} {d x : Nat} {M : qxM} {st : List Value} {a0 a1 a3 : Option Value} {z : Int32} : Rs L xs (d) 274 3 [a0, a1, none, a3] (.int z :: st) M x = Rs L xs (d) 274 4 [a0, a1, none, some (.int z)] st M x := Rs_next c274_3 rfl
theorem c274_4 : qx_code 274 4 = some (4, .iload_n 3, 5, 0, 0, 0) := by decide +kernel
theorem s274_4 {L : Nat} {xs : Nat → Int32} {d x : Nat} {M : qxM} {st : List Value} {a0 a1 a2 : Option Value} {z : Int32} : Rs L xs (d) 274 4 [a0, a1, a2, some (.int z)] st M x = Rs L xs (d) 274 5 [a0, a1, a2, some (.int z)] (.int z :: st) M x := Rs_next c274_4 rfl
theorem c274_5 : qx_code 274 5 = some (5, .aload_n 0, 6, 0, 0, 0) := by decide +kernel
theorem s274_5 {L : Nat} {xs : Nat → Int32} {d x : Nat} {M : qxM} {st : List Value} {a1 a2 a3 : Option Value} {z : Nat} : Rs L xs (d) 274 5 [some (.ref z), a1, a2, a3] st M x = Rs L xs (d) 274 6 [some (.ref z), a1, a2, a3] (.ref z :: st) M x := Rs_next c274_5 rfl
theorem c274_6 : qx_code 274 6 = some (6, .getfield 9, 9, 8, 1, 1546) := by decide +kernel
theorem s274_6 {L : Nat} {xs : Nat → Int32} {d x : Nat} {M : qxM} {st : List Value} {ls : qxL} {t : Nat} (hk : qx_kd t = 18) : Rs L xs (d) 274 6 ls (.ref t :: st) M x = Rs L xs (d) 274 9 ls (.ref (t + 1) :: st) M x := Rs_when (qx_kd_obj (k := 8) (by decide) hk) c274_6 rfl
theorem c274_9 : qx_code 274 9 = some (9, .iconst 0, 10, 0, 0, 0) := by decide +kernel
theorem s274_9 {L : Nat} {xs : Nat → Int32} {d x : Nat} {M : qxM} {st : List Value} {ls : qxL} : Rs L xs (d) 274 9 ls st M x = Rs L xs (d) 274 10 ls (.int (nI 0) :: st) M x := Rs_next c274_9 rfl
theorem c274_10 : qx_code 274 10 = some (10, .iaload, 11, 0, 0, 0) := by decide +kernel
theorem s274_10 {L : Nat} {xs : Nat → Int32} {d x : Nat} {M : qxM} {st : List Value} {ls : qxL} {t : Nat} {j : Int32} (hk : qx_kd t = 0) (hj : qx_ib j (qx_ln t) = true) : Rs L xs (d) 274 10 ls (.int j :: .ref t :: st) M x = Rs L xs (d) 274 11 ls (.int (M.1 t j.toNatClampNeg) :: st) M x := by
  have h1 := qx_kd_row (k := 0) (by decide) hk
  exact Rs_unless (qx_ib_not hj) c274_10 (by unfold qx_act; dsimp only; rw [h1]; rfl)
theorem c274_11 : qx_code 274 11 = some (11, .if_icmp .ge 41, 14, 52, 0, 0) := by decide +kernel
theorem s274_11 {L : Nat} {xs : Nat → Int32} {d x : Nat} {M : qxM} {st : List Value} {ls : qxL} {z y : Int32} : Rs L xs (d) 274 11 ls (.int y :: .int z :: st) M x = if y ≤ z then Rs L xs (d) 274 52 ls st M x else Rs L xs (d) 274 14 ls st M x := Rs_ite c274_11 rfl
theorem c274_14 : qx_code 274 14 = some (14, .iload_n 2, 15, 0, 0, 0) := by decide +kernel
theorem s274_14 {L : Nat} {xs : Nat → Int32} {d x : Nat} {M : qxM} {st : List Value} {a0 a1 a3 : Option Value} {z : Int32} : Rs L xs (d) 274 14 [a0, a1, some (.int z), a3] st M x = Rs L xs (d) 274 15 [a0, a1, some (.int z), a3] (.int z :: st) M x := Rs_next c274_14 rfl
theorem c274_15 : qx_code 274 15 = some (15, .iload_n 1, 16, 0, 0, 0) := by decide +kernel
theorem s274_15 {L : Nat} {xs : Nat → Int32} {d x : Nat} {M : qxM} {st : List Value} {a0 a2 a3 : Option Value} {z : Int32} : Rs L xs (d) 274 15 [a0, some (.int z), a2, a3] st M x = Rs L xs (d) 274 16 [a0, some (.int z), a2, a3] (.int z :: st) M x := Rs_next c274_15 rfl
theorem c274_16 : qx_code 274 16 = some (16, .iload_n 3, 17, 0, 0, 0) := by decide +kernel
theorem s274_16 {L : Nat} {xs : Nat → Int32} {d x : Nat} {M : qxM} {st : List Value} {a0 a1 a2 : Option Value} {z : Int32} : Rs L xs (d) 274 16 [a0, a1, a2, some (.int z)] st M x = Rs L xs (d) 274 17 [a0, a1, a2, some (.int z)] (.int z :: st) M x := Rs_next c274_16 rfl
theorem c274_17 : qx_code 274 17 = some (17, .invokestatic 128, 20, 208, 2, 1729) := by decide +kernel
theorem s274_17 {L : Nat} {xs : Nat → Int32} {d x : Nat} {M : qxM} {st : List Value} {ls : qxL} {z0 : Int32} {z1 : Int32} (hs : st.length ≤ 4) : Rs L xs (d + 1) 274 17 ls (.int z1 :: .int z0 :: st) M x = (Rs L xs d 208 0 [some (.int z0), some (.int z1)] [] M 0).bind (qx_kn L xs (d + 1) 274 17 20 208 ls st x) := by
  have h1 : qx_act L xs (qx_rt 274) (17, .invokestatic 128, 20, 208, 2, 1729) ls (.int z1 :: .int z0 :: st) M = if 2 ≤ (.int z1 :: .int z0 :: st).length ∧ st.length ≤ 4 then some (.inr (.inr (.inr (208, [.int z0, .int z1], st)))) else none := rfl
  rw [if_pos ⟨by simp [List.length_cons]; try omega, hs⟩] at h1
  exact Rs_call c274_17 h1 rfl
theorem c274_20 : qx_code 274 20 = some (20, .ifCond .ne 18, 23, 38, 0, 0) := by decide +kernel
theorem s274_20 {L : Nat} {xs : Nat → Int32} {d x : Nat} {M : qxM} {st : List Value} {ls : qxL} {z : Int32} : Rs L xs (d) 274 20 ls (.int z :: st) M x = if z = 0 then Rs L xs (d) 274 23 ls st M x else Rs L xs (d) 274 38 ls st M x := Rs_ite c274_20 rfl
theorem c274_23 : qx_code 274 23 = some (23, .aload_n 0, 24, 0, 0, 0) := by decide +kernel
theorem s274_23 {L : Nat} {xs : Nat → Int32} {d x : Nat} {M : qxM} {st : List Value} {a1 a2 a3 : Option Value} {z : Nat} : Rs L xs (d) 274 23 [some (.ref z), a1, a2, a3] st M x = Rs L xs (d) 274 24 [some (.ref z), a1, a2, a3] (.ref z :: st) M x := Rs_next c274_23 rfl
theorem c274_24 : qx_code 274 24 = some (24, .getfield 40, 27, 8, 19, 1564) := by decide +kernel
theorem s274_24 {L : Nat} {xs : Nat → Int32} {d x : Nat} {M : qxM} {st : List Value} {ls : qxL} {t : Nat} (hk : qx_kd t = 18) : Rs L xs (d) 274 24 ls (.ref t :: st) M x = Rs L xs (d) 274 27 ls (.ref (t + 9) :: st) M x := Rs_when (qx_kd_obj (k := 8) (by decide) hk) c274_24 rfl
theorem c274_27 : qx_code 274 27 = some (27, .iload_n 3, 28, 0, 0, 0) := by decide +kernel
theorem s274_27 {L : Nat} {xs : Nat → Int32} {d x : Nat} {M : qxM} {st : List Value} {a0 a1 a2 : Option Value} {z : Int32} : Rs L xs (d) 274 27 [a0, a1, a2, some (.int z)] st M x = Rs L xs (d) 274 28 [a0, a1, a2, some (.int z)] (.int z :: st) M x := Rs_next c274_27 rfl
theorem c274_28 : qx_code 274 28 = some (28, .iaload, 29, 0, 0, 0) := by decide +kernel
theorem s274_28 {L : Nat} {xs : Nat → Int32} {d x : Nat} {M : qxM} {st : List Value} {ls : qxL} {t : Nat} {j : Int32} (hk : qx_kd t = 0) (hj : qx_ib j (qx_ln t) = true) : Rs L xs (d) 274 28 ls (.int j :: .ref t :: st) M x = Rs L xs (d) 274 29 ls (.int (M.1 t j.toNatClampNeg) :: st) M x := by
  have h1 := qx_kd_row (k := 0) (by decide) hk
  exact Rs_unless (qx_ib_not hj) c274_28 (by unfold qx_act; dsimp only; rw [h1]; rfl)
theorem c274_29 : qx_code 274 29 = some (29, .iload_n 1, 30, 0, 0, 0) := by decide +kernel
theorem s274_29 {L : Nat} {xs : Nat → Int32} {d x : Nat} {M : qxM} {st : List Value} {a0 a2 a3 : Option Value} {z : Int32} : Rs L xs (d) 274 29 [a0, some (.int z), a2, a3] st M x = Rs L xs (d) 274 30 [a0, some (.int z), a2, a3] (.int z :: st) M x := Rs_next c274_29 rfl
theorem c274_30 : qx_code 274 30 = some (30, .iand, 31, 0, 0, 0) := by decide +kernel
theorem s274_30 {L : Nat} {xs : Nat → Int32} {d x : Nat} {M : qxM} {st : List Value} {ls : qxL} {z y : Int32} : Rs L xs (d) 274 30 ls (.int y :: .int z :: st) M x = Rs L xs (d) 274 31 ls (.int (z &&& y) :: st) M x := Rs_next c274_30 rfl
theorem c274_31 : qx_code 274 31 = some (31, .ifCond .eq 7, 34, 38, 0, 0) := by decide +kernel
theorem s274_31 {L : Nat} {xs : Nat → Int32} {d x : Nat} {M : qxM} {st : List Value} {ls : qxL} {z : Int32} : Rs L xs (d) 274 31 ls (.int z :: st) M x = if z = 0 then Rs L xs (d) 274 38 ls st M x else Rs L xs (d) 274 34 ls st M x := Rs_ite c274_31 rfl
theorem c274_34 : qx_code 274 34 = some (34, .iconst 1, 35, 0, 0, 0) := by decide +kernel
theorem s274_34 {L : Nat} {xs : Nat → Int32} {d x : Nat} {M : qxM} {st : List Value} {ls : qxL} : Rs L xs (d) 274 34 ls st M x = Rs L xs (d) 274 35 ls (.int (nI 1) :: st) M x := Rs_next c274_34 rfl
theorem c274_35 : qx_code 274 35 = some (35, .goto 4, 38, 39, 0, 0) := by decide +kernel
theorem s274_35 {L : Nat} {xs : Nat → Int32} {d x : Nat} {M : qxM} {st : List Value} {ls : qxL} : Rs L xs (d) 274 35 ls st M x = Rs L xs (d) 274 39 ls st M x := Rs_next c274_35 rfl
theorem c274_38 : qx_code 274 38 = some (38, .iconst 0, 39, 0, 0, 0) := by decide +kernel
theorem s274_38 {L : Nat} {xs : Nat → Int32} {d x : Nat} {M : qxM} {st : List Value} {ls : qxL} : Rs L xs (d) 274 38 ls st M x = Rs L xs (d) 274 39 ls (.int (nI 0) :: st) M x := Rs_next c274_38 rfl
theorem c274_39 : qx_code 274 39 = some (39, .invokestatic 203, 42, 179, 1, 1785) := by decide +kernel
theorem s274_39 {L : Nat} {xs : Nat → Int32} {d x : Nat} {M : qxM} {st : List Value} {ls : qxL} {z0 : Int32} (hs : st.length ≤ 4) : Rs L xs (d + 1) 274 39 ls (.int z0 :: st) M x = (Rs L xs d 179 0 [some (.int z0)] [] M 0).bind (qx_kn L xs (d + 1) 274 39 42 179 ls st x) := by
  have h1 : qx_act L xs (qx_rt 274) (39, .invokestatic 203, 42, 179, 1, 1785) ls (.int z0 :: st) M = if 1 ≤ (.int z0 :: st).length ∧ st.length ≤ 4 then some (.inr (.inr (.inr (179, [.int z0], st)))) else none := rfl
  rw [if_pos ⟨by simp [List.length_cons]; try omega, hs⟩] at h1
  exact Rs_call c274_39 h1 rfl
theorem c274_42 : qx_code 274 42 = some (42, .iload_n 3, 43, 0, 0, 0) := by decide +kernel
theorem s274_42 {L : Nat} {xs : Nat → Int32} {d x : Nat} {M : qxM} {st : List Value} {a0 a1 a2 : Option Value} {z : Int32} : Rs L xs (d) 274 42 [a0, a1, a2, some (.int z)] st M x = Rs L xs (d) 274 43 [a0, a1, a2, some (.int z)] (.int z :: st) M x := Rs_next c274_42 rfl
theorem c274_43 : qx_code 274 43 = some (43, .ishl, 44, 0, 0, 0) := by decide +kernel
theorem s274_43 {L : Nat} {xs : Nat → Int32} {d x : Nat} {M : qxM} {st : List Value} {ls : qxL} {z y : Int32} : Rs L xs (d) 274 43 ls (.int y :: .int z :: st) M x = Rs L xs (d) 274 44 ls (.int (z <<< (y &&& 31)) :: st) M x := Rs_next c274_43 rfl
theorem c274_44 : qx_code 274 44 = some (44, .ior, 45, 0, 0, 0) := by decide +kernel
theorem s274_44 {L : Nat} {xs : Nat → Int32} {d x : Nat} {M : qxM} {st : List Value} {ls : qxL} {z y : Int32} : Rs L xs (d) 274 44 ls (.int y :: .int z :: st) M x = Rs L xs (d) 274 45 ls (.int (z ||| y) :: st) M x := Rs_next c274_44 rfl
theorem c274_45 : qx_code 274 45 = some (45, .istore_n 2, 46, 0, 0, 0) := by decide +kernel
theorem s274_45i {L : Nat} {xs : Nat → Int32} {d x : Nat} {M : qxM} {st : List Value} {a0 a2 a3 : Option Value} {z : Int32} {y : Int32} : Rs L xs (d) 274 45 [a0, some (.int y), a2, a3] (.int z :: st) M x = Rs L xs (d) 274 46 [a0, some (.int y), some (.int z), a3] st M x := Rs_next c274_45 rfl
theorem s274_45r {L : Nat} {xs : Nat → Int32} {d x : Nat} {M : qxM} {st : List Value} {a0 a2 a3 : Option Value} {z : Int32} {y : Nat} : Rs L xs (d) 274 45 [a0, some (.ref y), a2, a3] (.int z :: st) M x = Rs L xs (d) 274 46 [a0, some (.ref y), some (.int z), a3] st M x := Rs_next c274_45 rfl
theorem s274_45n {L : Nat} {xs : Nat → Int32} {d x : Nat} {M : qxM} {st : List Value} {a0 a2 a3 : Option Value} {z : Int32} : Rs L xs (d) 274 45 [a0, none, a2, a3] (.int z :: st) M x = Rs L xs (d) 274 46 [a0, none, some (.int z), a3] st M x := Rs_next c274_45 rfl
theorem c274_46 : qx_code 274 46 = some (46, .iinc 3 1, 49, 0, 0, 0) := by decide +kernel
theorem s274_46i {L : Nat} {xs : Nat → Int32} {d x : Nat} {M : qxM} {st : List Value} {a0 a1 : Option Value} {z : Int32} {y : Int32} : Rs L xs (d) 274 46 [a0, a1, some (.int y), some (.int z)] st M x = Rs L xs (d) 274 49 [a0, a1, some (.int y), some (.int (z + (nI 1)))] st M x := Rs_next c274_46 rfl
theorem s274_46r {L : Nat} {xs : Nat → Int32} {d x : Nat} {M : qxM} {st : List Value} {a0 a1 : Option Value} {z : Int32} {y : Nat} : Rs L xs (d) 274 46 [a0, a1, some (.ref y), some (.int z)] st M x = Rs L xs (d) 274 49 [a0, a1, some (.ref y), some (.int (z + (nI 1)))] st M x := Rs_next c274_46 rfl
theorem s274_46n {L : Nat} {xs : Nat → Int32} {d x : Nat} {M : qxM} {st : List Value} {a0 a1 : Option Value} {z : Int32} : Rs L xs (d) 274 46 [a0, a1, none, some (.int z)] st M x = Rs L xs (d) 274 49 [a0, a1, none, some (.int (z + (nI 1)))] st M x := Rs_next c274_46 rfl
theorem c274_49 : qx_code 274 49 = some (49, .goto (-45), 52, 4, 0, 0) := by decide +kernel
theorem s274_49 {L : Nat} {xs : Nat → Int32} {d x : Nat} {M : qxM} {st : List Value} {ls : qxL} : Rs L xs (d) 274 49 ls st M x = Rs L xs (d) 274 4 ls st M x := Rs_next c274_49 rfl
theorem c274_52 : qx_code 274 52 = some (52, .iload_n 2, 53, 0, 0, 0) := by decide +kernel
theorem s274_52 {L : Nat} {xs : Nat → Int32} {d x : Nat} {M : qxM} {st : List Value} {a0 a1 a3 : Option Value} {z : Int32} : Rs L xs (d) 274 52 [a0, a1, some (.int z), a3] st M x = Rs L xs (d) 274 53 [a0, a1, some (.int z), a3] (.int z :: st) M x := Rs_next c274_52 rfl
theorem c274_53 : qx_code 274 53 = some (53, .ireturn, 54, 0, 0, 0) := by decide +kernel
theorem s274_53 {L : Nat} {xs : Nat → Int32} {d x : Nat} {M : qxM} {ls : qxL} {z : Int32} : Rs L xs (d) 274 53 ls [.int z] M x = some (.inl (some (.int z)), M, x) := Rs_ret c274_53 rfl
theorem c275_0 : qx_code 275 0 = some (0, .iconst 1, 1, 0, 0, 0) := by decide +kernel
theorem s275_0 {L : Nat} {xs : Nat → Int32} {d x : Nat} {M : qxM} {st : List Value} {ls : qxL} : Rs L xs (d) 275 0 ls st M x = Rs L xs (d) 275 1 ls (.int (nI 1) :: st) M x := Rs_next c275_0 rfl
theorem c275_1 : qx_code 275 1 = some (1, .iload_n 1, 2, 0, 0, 0) := by decide +kernel
theorem s275_1 {L : Nat} {xs : Nat → Int32} {d x : Nat} {M : qxM} {st : List Value} {a0 a2 a3 a4 a5 : Option Value} {z : Int32} : Rs L xs (d) 275 1 [a0, some (.int z), a2, a3, a4, a5] st M x = Rs L xs (d) 275 2 [a0, some (.int z), a2, a3, a4, a5] (.int z :: st) M x := Rs_next c275_1 rfl
theorem c275_2 : qx_code 275 2 = some (2, .ishl, 3, 0, 0, 0) := by decide +kernel
theorem s275_2 {L : Nat} {xs : Nat → Int32} {d x : Nat} {M : qxM} {st : List Value} {ls : qxL} {z y : Int32} : Rs L xs (d) 275 2 ls (.int y :: .int z :: st) M x = Rs L xs (d) 275 3 ls (.int (z <<< (y &&& 31)) :: st) M x := Rs_next c275_2 rfl
theorem c275_3 : qx_code 275 3 = some (3, .istore_n 3, 4, 0, 0, 0) := by decide +kernel
theorem s275_3i {L : Nat} {xs : Nat → Int32} {d x : Nat} {M : qxM} {st : List Value} {a0 a1 a3 a4 a5 : Option Value} {z : Int32} {y : Int32} : Rs L xs (d) 275 3 [a0, a1, some (.int y), a3, a4, a5] (.int z :: st) M x = Rs L xs (d) 275 4 [a0, a1, some (.int y), some (.int z), a4, a5] st M x := Rs_next c275_3 rfl
theorem s275_3r {L : Nat} {xs : Nat → Int32} {d x : Nat} {M : qxM} {st : List Value} {a0 a1 a3 a4 a5 : Option Value} {z : Int32} {y : Nat} : Rs L xs (d) 275 3 [a0, a1, some (.ref y), a3, a4, a5] (.int z :: st) M x = Rs L xs (d) 275 4 [a0, a1, some (.ref y), some (.int z), a4, a5] st M x := Rs_next c275_3 rfl
theorem s275_3n {L : Nat} {xs : Nat → Int32} {d x : Nat} {M : qxM} {st : List Value} {a0 a1 a3 a4 a5 : Option Value} {z : Int32} : Rs L xs (d) 275 3 [a0, a1, none, a3, a4, a5] (.int z :: st) M x = Rs L xs (d) 275 4 [a0, a1, none, some (.int z), a4, a5] st M x := Rs_next c275_3 rfl
theorem c275_4 : qx_code 275 4 = some (4, .iconst 0, 5, 0, 0, 0) := by decide +kernel
theorem s275_4 {L : Nat} {xs : Nat → Int32} {d x : Nat} {M : qxM} {st : List Value} {ls : qxL} : Rs L xs (d) 275 4 ls st M x = Rs L xs (d) 275 5 ls (.int (nI 0) :: st) M x := Rs_next c275_4 rfl
theorem c275_5 : qx_code 275 5 = some (5, .istore 4, 7, 0, 0, 0) := by decide +kernel
theorem s275_5i {L : Nat} {xs : Nat → Int32} {d x : Nat} {M : qxM} {st : List Value} {a0 a1 a2 a4 a5 : Option Value} {z : Int32} {y : Int32} : Rs L xs (d) 275 5 [a0, a1, a2, some (.int y), a4, a5] (.int z :: st) M x = Rs L xs (d) 275 7 [a0, a1, a2, some (.int y), some (.int z), a5] st M x := Rs_next c275_5 rfl
theorem s275_5r {L : Nat} {xs : Nat → Int32} {d x : Nat} {M : qxM} {st : List Value} {a0 a1 a2 a4 a5 : Option Value} {z : Int32} {y : Nat} : Rs L xs (d) 275 5 [a0, a1, a2, some (.ref y), a4, a5] (.int z :: st) M x = Rs L xs (d) 275 7 [a0, a1, a2, some (.ref y), some (.int z), a5] st M x := Rs_next c275_5 rfl
theorem s275_5n {L : Nat} {xs : Nat → Int32} {d x : Nat} {M : qxM} {st : List Value} {a0 a1 a2 a4 a5 : Option Value} {z : Int32} : Rs L xs (d) 275 5 [a0, a1, a2, none, a4, a5] (.int z :: st) M x = Rs L xs (d) 275 7 [a0, a1, a2, none, some (.int z), a5] st M x := Rs_next c275_5 rfl
theorem c275_7 : qx_code 275 7 = some (7, .iload_n 3, 8, 0, 0, 0) := by decide +kernel
theorem s275_7 {L : Nat} {xs : Nat → Int32} {d x : Nat} {M : qxM} {st : List Value} {a0 a1 a2 a4 a5 : Option Value} {z : Int32} : Rs L xs (d) 275 7 [a0, a1, a2, some (.int z), a4, a5] st M x = Rs L xs (d) 275 8 [a0, a1, a2, some (.int z), a4, a5] (.int z :: st) M x := Rs_next c275_7 rfl
theorem c275_8 : qx_code 275 8 = some (8, .iload 4, 10, 0, 0, 0) := by decide +kernel
theorem s275_8 {L : Nat} {xs : Nat → Int32} {d x : Nat} {M : qxM} {st : List Value} {a0 a1 a2 a3 a5 : Option Value} {z : Int32} : Rs L xs (d) 275 8 [a0, a1, a2, a3, some (.int z), a5] st M x = Rs L xs (d) 275 10 [a0, a1, a2, a3, some (.int z), a5] (.int z :: st) M x := Rs_next c275_8 rfl
theorem c275_10 : qx_code 275 10 = some (10, .if_icmp .eq 51, 13, 61, 0, 0) := by decide +kernel
theorem s275_10 {L : Nat} {xs : Nat → Int32} {d x : Nat} {M : qxM} {st : List Value} {ls : qxL} {z y : Int32} : Rs L xs (d) 275 10 ls (.int y :: .int z :: st) M x = if z = y then Rs L xs (d) 275 61 ls st M x else Rs L xs (d) 275 13 ls st M x := Rs_ite c275_10 rfl
theorem c275_13 : qx_code 275 13 = some (13, .iload_n 3, 14, 0, 0, 0) := by decide +kernel
theorem s275_13 {L : Nat} {xs : Nat → Int32} {d x : Nat} {M : qxM} {st : List Value} {a0 a1 a2 a4 a5 : Option Value} {z : Int32} : Rs L xs (d) 275 13 [a0, a1, a2, some (.int z), a4, a5] st M x = Rs L xs (d) 275 14 [a0, a1, a2, some (.int z), a4, a5] (.int z :: st) M x := Rs_next c275_13 rfl
theorem c275_14 : qx_code 275 14 = some (14, .istore 4, 16, 0, 0, 0) := by decide +kernel
theorem s275_14i {L : Nat} {xs : Nat → Int32} {d x : Nat} {M : qxM} {st : List Value} {a0 a1 a2 a4 a5 : Option Value} {z : Int32} {y : Int32} : Rs L xs (d) 275 14 [a0, a1, a2, some (.int y), a4, a5] (.int z :: st) M x = Rs L xs (d) 275 16 [a0, a1, a2, some (.int y), some (.int z), a5] st M x := Rs_next c275_14 rfl
theorem s275_14r {L : Nat} {xs : Nat → Int32} {d x : Nat} {M : qxM} {st : List Value} {a0 a1 a2 a4 a5 : Option Value} {z : Int32} {y : Nat} : Rs L xs (d) 275 14 [a0, a1, a2, some (.ref y), a4, a5] (.int z :: st) M x = Rs L xs (d) 275 16 [a0, a1, a2, some (.ref y), some (.int z), a5] st M x := Rs_next c275_14 rfl
theorem s275_14n {L : Nat} {xs : Nat → Int32} {d x : Nat} {M : qxM} {st : List Value} {a0 a1 a2 a4 a5 : Option Value} {z : Int32} : Rs L xs (d) 275 14 [a0, a1, a2, none, a4, a5] (.int z :: st) M x = Rs L xs (d) 275 16 [a0, a1, a2, none, some (.int z), a5] st M x := Rs_next c275_14 rfl
theorem c275_16 : qx_code 275 16 = some (16, .iconst 0, 17, 0, 0, 0) := by decide +kernel
theorem s275_16 {L : Nat} {xs : Nat → Int32} {d x : Nat} {M : qxM} {st : List Value} {ls : qxL} : Rs L xs (d) 275 16 ls st M x = Rs L xs (d) 275 17 ls (.int (nI 0) :: st) M x := Rs_next c275_16 rfl
theorem c275_17 : qx_code 275 17 = some (17, .istore 5, 19, 0, 0, 0) := by decide +kernel
theorem s275_17i {L : Nat} {xs : Nat → Int32} {d x : Nat} {M : qxM} {st : List Value} {a0 a1 a2 a3 a5 : Option Value} {z : Int32} {y : Int32} : Rs L xs (d) 275 17 [a0, a1, a2, a3, some (.int y), a5] (.int z :: st) M x = Rs L xs (d) 275 19 [a0, a1, a2, a3, some (.int y), some (.int z)] st M x := Rs_next c275_17 rfl
theorem s275_17r {L : Nat} {xs : Nat → Int32} {d x : Nat} {M : qxM} {st : List Value} {a0 a1 a2 a3 a5 : Option Value} {z : Int32} {y : Nat} : Rs L xs (d) 275 17 [a0, a1, a2, a3, some (.ref y), a5] (.int z :: st) M x = Rs L xs (d) 275 19 [a0, a1, a2, a3, some (.ref y), some (.int z)] st M x := Rs_next c275_17 rfl
theorem s275_17n {L : Nat} {xs : Nat → Int32} {d x : Nat} {M : qxM} {st : List Value} {a0 a1 a2 a3 a5 : Option Value} {z : Int32} : Rs L xs (d) 275 17 [a0, a1, a2, a3, none, a5] (.int z :: st) M x = Rs L xs (d) 275 19 [a0, a1, a2, a3, none, some (.int z)] st M x := Rs_next c275_17 rfl
theorem c275_19 : qx_code 275 19 = some (19, .iload 5, 21, 0, 0, 0) := by decide +kernel
theorem s275_19 {L : Nat} {xs : Nat → Int32} {d x : Nat} {M : qxM} {st : List Value} {a0 a1 a2 a3 a4 : Option Value} {z : Int32} : Rs L xs (d) 275 19 [a0, a1, a2, a3, a4, some (.int z)] st M x = Rs L xs (d) 275 21 [a0, a1, a2, a3, a4, some (.int z)] (.int z :: st) M x := Rs_next c275_19 rfl
theorem c275_21 : qx_code 275 21 = some (21, .aload_n 0, 22, 0, 0, 0) := by decide +kernel
theorem s275_21 {L : Nat} {xs : Nat → Int32} {d x : Nat} {M : qxM} {st : List Value} {a1 a2 a3 a4 a5 : Option Value} {z : Nat} : Rs L xs (d) 275 21 [some (.ref z), a1, a2, a3, a4, a5] st M x = Rs L xs (d) 275 22 [some (.ref z), a1, a2, a3, a4, a5] (.ref z :: st) M x := Rs_next c275_21 rfl
theorem c275_22 : qx_code 275 22 = some (22, .getfield 9, 25, 8, 1, 1546) := by decide +kernel
theorem s275_22 {L : Nat} {xs : Nat → Int32} {d x : Nat} {M : qxM} {st : List Value} {ls : qxL} {t : Nat} (hk : qx_kd t = 18) : Rs L xs (d) 275 22 ls (.ref t :: st) M x = Rs L xs (d) 275 25 ls (.ref (t + 1) :: st) M x := Rs_when (qx_kd_obj (k := 8) (by decide) hk) c275_22 rfl
theorem c275_25 : qx_code 275 25 = some (25, .iconst 0, 26, 0, 0, 0) := by decide +kernel
theorem s275_25 {L : Nat} {xs : Nat → Int32} {d x : Nat} {M : qxM} {st : List Value} {ls : qxL} : Rs L xs (d) 275 25 ls st M x = Rs L xs (d) 275 26 ls (.int (nI 0) :: st) M x := Rs_next c275_25 rfl
theorem c275_26 : qx_code 275 26 = some (26, .iaload, 27, 0, 0, 0) := by decide +kernel
theorem s275_26 {L : Nat} {xs : Nat → Int32} {d x : Nat} {M : qxM} {st : List Value} {ls : qxL} {t : Nat} {j : Int32} (hk : qx_kd t = 0) (hj : qx_ib j (qx_ln t) = true) : Rs L xs (d) 275 26 ls (.int j :: .ref t :: st) M x = Rs L xs (d) 275 27 ls (.int (M.1 t j.toNatClampNeg) :: st) M x := by
  have h1 := qx_kd_row (k := 0) (by decide) hk
  exact Rs_unless (qx_ib_not hj) c275_26 (by unfold qx_act; dsimp only; rw [h1]; rfl)
theorem c275_27 : qx_code 275 27 = some (27, .if_icmp .ge 31, 30, 58, 0, 0) := by decide +kernel
theorem s275_27 {L : Nat} {xs : Nat → Int32} {d x : Nat} {M : qxM} {st : List Value} {ls : qxL} {z y : Int32} : Rs L xs (d) 275 27 ls (.int y :: .int z :: st) M x = if y ≤ z then Rs L xs (d) 275 58 ls st M x else Rs L xs (d) 275 30 ls st M x := Rs_ite c275_27 rfl
theorem c275_30 : qx_code 275 30 = some (30, .iload 4, 32, 0, 0, 0) := by decide +kernel
theorem s275_30 {L : Nat} {xs : Nat → Int32} {d x : Nat} {M : qxM} {st : List Value} {a0 a1 a2 a3 a5 : Option Value} {z : Int32} : Rs L xs (d) 275 30 [a0, a1, a2, a3, some (.int z), a5] st M x = Rs L xs (d) 275 32 [a0, a1, a2, a3, some (.int z), a5] (.int z :: st) M x := Rs_next c275_30 rfl
theorem c275_32 : qx_code 275 32 = some (32, .iload 5, 34, 0, 0, 0) := by decide +kernel
theorem s275_32 {L : Nat} {xs : Nat → Int32} {d x : Nat} {M : qxM} {st : List Value} {a0 a1 a2 a3 a4 : Option Value} {z : Int32} : Rs L xs (d) 275 32 [a0, a1, a2, a3, a4, some (.int z)] st M x = Rs L xs (d) 275 34 [a0, a1, a2, a3, a4, some (.int z)] (.int z :: st) M x := Rs_next c275_32 rfl
theorem c275_34 : qx_code 275 34 = some (34, .invokestatic 128, 37, 208, 2, 1729) := by decide +kernel
theorem s275_34 {L : Nat} {xs : Nat → Int32} {d x : Nat} {M : qxM} {st : List Value} {ls : qxL} {z0 : Int32} {z1 : Int32} (hs : st.length ≤ 4) : Rs L xs (d + 1) 275 34 ls (.int z1 :: .int z0 :: st) M x = (Rs L xs d 208 0 [some (.int z0), some (.int z1)] [] M 0).bind (qx_kn L xs (d + 1) 275 34 37 208 ls st x) := by
  have h1 : qx_act L xs (qx_rt 275) (34, .invokestatic 128, 37, 208, 2, 1729) ls (.int z1 :: .int z0 :: st) M = if 2 ≤ (.int z1 :: .int z0 :: st).length ∧ st.length ≤ 4 then some (.inr (.inr (.inr (208, [.int z0, .int z1], st)))) else none := rfl
  rw [if_pos ⟨by simp [List.length_cons]; try omega, hs⟩] at h1
  exact Rs_call c275_34 h1 rfl
theorem c275_37 : qx_code 275 37 = some (37, .ifCond .eq 15, 40, 52, 0, 0) := by decide +kernel
theorem s275_37 {L : Nat} {xs : Nat → Int32} {d x : Nat} {M : qxM} {st : List Value} {ls : qxL} {z : Int32} : Rs L xs (d) 275 37 ls (.int z :: st) M x = if z = 0 then Rs L xs (d) 275 52 ls st M x else Rs L xs (d) 275 40 ls st M x := Rs_ite c275_37 rfl
theorem c275_40 : qx_code 275 40 = some (40, .iload_n 3, 41, 0, 0, 0) := by decide +kernel
theorem s275_40 {L : Nat} {xs : Nat → Int32} {d x : Nat} {M : qxM} {st : List Value} {a0 a1 a2 a4 a5 : Option Value} {z : Int32} : Rs L xs (d) 275 40 [a0, a1, a2, some (.int z), a4, a5] st M x = Rs L xs (d) 275 41 [a0, a1, a2, some (.int z), a4, a5] (.int z :: st) M x := Rs_next c275_40 rfl
theorem c275_41 : qx_code 275 41 = some (41, .aload_n 0, 42, 0, 0, 0) := by decide +kernel
theorem s275_41 {L : Nat} {xs : Nat → Int32} {d x : Nat} {M : qxM} {st : List Value} {a1 a2 a3 a4 a5 : Option Value} {z : Nat} : Rs L xs (d) 275 41 [some (.ref z), a1, a2, a3, a4, a5] st M x = Rs L xs (d) 275 42 [some (.ref z), a1, a2, a3, a4, a5] (.ref z :: st) M x := Rs_next c275_41 rfl
theorem c275_42 : qx_code 275 42 = some (42, .getfield 40, 45, 8, 19, 1564) := by decide +kernel
theorem s275_42 {L : Nat} {xs : Nat → Int32} {d x : Nat} {M : qxM} {st : List Value} {ls : qxL} {t : Nat} (hk : qx_kd t = 18) : Rs L xs (d) 275 42 ls (.ref t :: st) M x = Rs L xs (d) 275 45 ls (.ref (t + 9) :: st) M x := Rs_when (qx_kd_obj (k := 8) (by decide) hk) c275_42 rfl
theorem c275_45 : qx_code 275 45 = some (45, .iload 5, 47, 0, 0, 0) := by decide +kernel
theorem s275_45 {L : Nat} {xs : Nat → Int32} {d x : Nat} {M : qxM} {st : List Value} {a0 a1 a2 a3 a4 : Option Value} {z : Int32} : Rs L xs (d) 275 45 [a0, a1, a2, a3, a4, some (.int z)] st M x = Rs L xs (d) 275 47 [a0, a1, a2, a3, a4, some (.int z)] (.int z :: st) M x := Rs_next c275_45 rfl
theorem c275_47 : qx_code 275 47 = some (47, .iaload, 48, 0, 0, 0) := by decide +kernel
theorem s275_47 {L : Nat} {xs : Nat → Int32} {d x : Nat} {M : qxM} {st : List Value} {ls : qxL} {t : Nat} {j : Int32} (hk : qx_kd t = 0) (hj : qx_ib j (qx_ln t) = true) : Rs L xs (d) 275 47 ls (.int j :: .ref t :: st) M x = Rs L xs (d) 275 48 ls (.int (M.1 t j.toNatClampNeg) :: st) M x := by
  have h1 := qx_kd_row (k := 0) (by decide) hk
  exact Rs_unless (qx_ib_not hj) c275_47 (by unfold qx_act; dsimp only; rw [h1]; rfl)
theorem c275_48 : qx_code 275 48 = some (48, .iload_n 2, 49, 0, 0, 0) := by decide +kernel
theorem s275_48 {L : Nat} {xs : Nat → Int32} {d x : Nat} {M : qxM} {st : List Value} {a0 a1 a3 a4 a5 : Option Value} {z : Int32} : Rs L xs (d) 275 48 [a0, a1, some (.int z), a3, a4, a5] st M x = Rs L xs (d) 275 49 [a0, a1, some (.int z), a3, a4, a5] (.int z :: st) M x := Rs_next c275_48 rfl
theorem c275_49 : qx_code 275 49 = some (49, .iand, 50, 0, 0, 0) := by decide +kernel
theorem s275_49 {L : Nat} {xs : Nat → Int32} {d x : Nat} {M : qxM} {st : List Value} {ls : qxL} {z y : Int32} : Rs L xs (d) 275 49 ls (.int y :: .int z :: st) M x = Rs L xs (d) 275 50 ls (.int (z &&& y) :: st) M x := Rs_next c275_49 rfl
theorem c275_50 : qx_code 275 50 = some (50, .ior, 51, 0, 0, 0) := by decide +kernel
theorem s275_50 {L : Nat} {xs : Nat → Int32} {d x : Nat} {M : qxM} {st : List Value} {ls : qxL} {z y : Int32} : Rs L xs (d) 275 50 ls (.int y :: .int z :: st) M x = Rs L xs (d) 275 51 ls (.int (z ||| y) :: st) M x := Rs_next c275_50 rfl
theorem c275_51 : qx_code 275 51 = some (51, .istore_n 3, 52, 0, 0, 0) := by decide +kernel
theorem s275_51i {L : Nat} {xs : Nat → Int32} {d x : Nat} {M : qxM} {st : List Value} {a0 a1 a3 a4 a5 : Option Value} {z : Int32} {y : Int32} : Rs L xs (d) 275 51 [a0, a1, some (.int y), a3, a4, a5] (.int z :: st) M x = Rs L xs (d) 275 52 [a0, a1, some (.int y), some (.int z), a4, a5] st M x := Rs_next c275_51 rfl
theorem s275_51r {L : Nat} {xs : Nat → Int32} {d x : Nat} {M : qxM} {st : List Value} {a0 a1 a3 a4 a5 : Option Value} {z : Int32} {y : Nat} : Rs L xs (d) 275 51 [a0, a1, some (.ref y), a3, a4, a5] (.int z :: st) M x = Rs L xs (d) 275 52 [a0, a1, some (.ref y), some (.int z), a4, a5] st M x := Rs_next c275_51 rfl
theorem s275_51n {L : Nat} {xs : Nat → Int32} {d x : Nat} {M : qxM} {st : List Value} {a0 a1 a3 a4 a5 : Option Value} {z : Int32} : Rs L xs (d) 275 51 [a0, a1, none, a3, a4, a5] (.int z :: st) M x = Rs L xs (d) 275 52 [a0, a1, none, some (.int z), a4, a5] st M x := Rs_next c275_51 rfl
theorem c275_52 : qx_code 275 52 = some (52, .iinc 5 1, 55, 0, 0, 0) := by decide +kernel
theorem s275_52i {L : Nat} {xs : Nat → Int32} {d x : Nat} {M : qxM} {st : List Value} {a0 a1 a2 a3 : Option Value} {z : Int32} {y : Int32} : Rs L xs (d) 275 52 [a0, a1, a2, a3, some (.int y), some (.int z)] st M x = Rs L xs (d) 275 55 [a0, a1, a2, a3, some (.int y), some (.int (z + (nI 1)))] st M x := Rs_next c275_52 rfl
theorem s275_52r {L : Nat} {xs : Nat → Int32} {d x : Nat} {M : qxM} {st : List Value} {a0 a1 a2 a3 : Option Value} {z : Int32} {y : Nat} : Rs L xs (d) 275 52 [a0, a1, a2, a3, some (.ref y), some (.int z)] st M x = Rs L xs (d) 275 55 [a0, a1, a2, a3, some (.ref y), some (.int (z + (nI 1)))] st M x := Rs_next c275_52 rfl
theorem s275_52n {L : Nat} {xs : Nat → Int32} {d x : Nat} {M : qxM} {st : List Value} {a0 a1 a2 a3 : Option Value} {z : Int32} : Rs L xs (d) 275 52 [a0, a1, a2, a3, none, some (.int z)] st M x = Rs L xs (d) 275 55 [a0, a1, a2, a3, none, some (.int (z + (nI 1)))] st M x := Rs_next c275_52 rfl
theorem c275_55 : qx_code 275 55 = some (55, .goto (-36), 58, 19, 0, 0) := by decide +kernel
theorem s275_55 {L : Nat} {xs : Nat → Int32} {d x : Nat} {M : qxM} {st : List Value} {ls : qxL} : Rs L xs (d) 275 55 ls st M x = Rs L xs (d) 275 19 ls st M x := Rs_next c275_55 rfl
theorem c275_58 : qx_code 275 58 = some (58, .goto (-51), 61, 7, 0, 0) := by decide +kernel
theorem s275_58 {L : Nat} {xs : Nat → Int32} {d x : Nat} {M : qxM} {st : List Value} {ls : qxL} : Rs L xs (d) 275 58 ls st M x = Rs L xs (d) 275 7 ls st M x := Rs_next c275_58 rfl
theorem c275_61 : qx_code 275 61 = some (61, .iload_n 3, 62, 0, 0, 0) := by decide +kernel
theorem s275_61 {L : Nat} {xs : Nat → Int32} {d x : Nat} {M : qxM} {st : List Value} {a0 a1 a2 a4 a5 : Option Value} {z : Int32} : Rs L xs (d) 275 61 [a0, a1, a2, some (.int z), a4, a5] st M x = Rs L xs (d) 275 62 [a0, a1, a2, some (.int z), a4, a5] (.int z :: st) M x := Rs_next c275_61 rfl
theorem c275_62 : qx_code 275 62 = some (62, .ireturn, 63, 0, 0, 0) := by decide +kernel
theorem s275_62 {L : Nat} {xs : Nat → Int32} {d x : Nat} {M : qxM} {ls : qxL} {z : Int32} : Rs L xs (d) 275 62 ls [.int z] M x = some (.inl (some (.int z)), M, x) := Rs_ret c275_62 rfl
theorem c276_0 : qx_code 276 0 = some (0, .iload_n 2, 1, 0, 0, 0) := by decide +kernel
theorem s276_0 {L : Nat} {xs : Nat → Int32} {d x : Nat} {M : qxM} {st : List Value} {a0 a1 a3 a4 a5 : Option Value} {z : Int32} : Rs L xs (d) 276 0 [a0, a1, some (.int z), a3, a4, a5] st M x = Rs L xs (d) 276 1 [a0, a1, some (.int z), a3, a4, a5] (.int z :: st) M x := Rs_next c276_0 rfl
theorem c276_1 : qx_code 276 1 = some (1, .istore_n 3, 2, 0, 0, 0) := by decide +kernel
theorem s276_1i {L : Nat} {xs : Nat → Int32} {d x : Nat} {M : qxM} {st : List Value} {a0 a1 a3 a4 a5 : Option Value} {z : Int32} {y : Int32} : Rs L xs (d) 276 1 [a0, a1, some (.int y), a3, a4, a5] (.int z :: st) M x = Rs L xs (d) 276 2 [a0, a1, some (.int y), some (.int z), a4, a5] st M x := Rs_next c276_1 rfl
theorem s276_1r {L : Nat} {xs : Nat → Int32} {d x : Nat} {M : qxM} {st : List Value} {a0 a1 a3 a4 a5 : Option Value} {z : Int32} {y : Nat} : Rs L xs (d) 276 1 [a0, a1, some (.ref y), a3, a4, a5] (.int z :: st) M x = Rs L xs (d) 276 2 [a0, a1, some (.ref y), some (.int z), a4, a5] st M x := Rs_next c276_1 rfl
theorem s276_1n {L : Nat} {xs : Nat → Int32} {d x : Nat} {M : qxM} {st : List Value} {a0 a1 a3 a4 a5 : Option Value} {z : Int32} : Rs L xs (d) 276 1 [a0, a1, none, a3, a4, a5] (.int z :: st) M x = Rs L xs (d) 276 2 [a0, a1, none, some (.int z), a4, a5] st M x := Rs_next c276_1 rfl
theorem c276_2 : qx_code 276 2 = some (2, .iconst 0, 3, 0, 0, 0) := by decide +kernel
theorem s276_2 {L : Nat} {xs : Nat → Int32} {d x : Nat} {M : qxM} {st : List Value} {ls : qxL} : Rs L xs (d) 276 2 ls st M x = Rs L xs (d) 276 3 ls (.int (nI 0) :: st) M x := Rs_next c276_2 rfl
theorem c276_3 : qx_code 276 3 = some (3, .istore 4, 5, 0, 0, 0) := by decide +kernel
theorem s276_3i {L : Nat} {xs : Nat → Int32} {d x : Nat} {M : qxM} {st : List Value} {a0 a1 a2 a4 a5 : Option Value} {z : Int32} {y : Int32} : Rs L xs (d) 276 3 [a0, a1, a2, some (.int y), a4, a5] (.int z :: st) M x = Rs L xs (d) 276 5 [a0, a1, a2, some (.int y), some (.int z), a5] st M x := Rs_next c276_3 rfl
theorem s276_3r {L : Nat} {xs : Nat → Int32} {d x : Nat} {M : qxM} {st : List Value} {a0 a1 a2 a4 a5 : Option Value} {z : Int32} {y : Nat} : Rs L xs (d) 276 3 [a0, a1, a2, some (.ref y), a4, a5] (.int z :: st) M x = Rs L xs (d) 276 5 [a0, a1, a2, some (.ref y), some (.int z), a5] st M x := Rs_next c276_3 rfl
theorem s276_3n {L : Nat} {xs : Nat → Int32} {d x : Nat} {M : qxM} {st : List Value} {a0 a1 a2 a4 a5 : Option Value} {z : Int32} : Rs L xs (d) 276 3 [a0, a1, a2, none, a4, a5] (.int z :: st) M x = Rs L xs (d) 276 5 [a0, a1, a2, none, some (.int z), a5] st M x := Rs_next c276_3 rfl
theorem c276_5 : qx_code 276 5 = some (5, .iload_n 3, 6, 0, 0, 0) := by decide +kernel
theorem s276_5 {L : Nat} {xs : Nat → Int32} {d x : Nat} {M : qxM} {st : List Value} {a0 a1 a2 a4 a5 : Option Value} {z : Int32} : Rs L xs (d) 276 5 [a0, a1, a2, some (.int z), a4, a5] st M x = Rs L xs (d) 276 6 [a0, a1, a2, some (.int z), a4, a5] (.int z :: st) M x := Rs_next c276_5 rfl
theorem c276_6 : qx_code 276 6 = some (6, .ifCond .eq 36, 9, 42, 0, 0) := by decide +kernel
theorem s276_6 {L : Nat} {xs : Nat → Int32} {d x : Nat} {M : qxM} {st : List Value} {ls : qxL} {z : Int32} : Rs L xs (d) 276 6 ls (.int z :: st) M x = if z = 0 then Rs L xs (d) 276 42 ls st M x else Rs L xs (d) 276 9 ls st M x := Rs_ite c276_6 rfl
theorem c276_9 : qx_code 276 9 = some (9, .aload_n 0, 10, 0, 0, 0) := by decide +kernel
theorem s276_9 {L : Nat} {xs : Nat → Int32} {d x : Nat} {M : qxM} {st : List Value} {a1 a2 a3 a4 a5 : Option Value} {z : Nat} : Rs L xs (d) 276 9 [some (.ref z), a1, a2, a3, a4, a5] st M x = Rs L xs (d) 276 10 [some (.ref z), a1, a2, a3, a4, a5] (.ref z :: st) M x := Rs_next c276_9 rfl
theorem c276_10 : qx_code 276 10 = some (10, .iload_n 3, 11, 0, 0, 0) := by decide +kernel
theorem s276_10 {L : Nat} {xs : Nat → Int32} {d x : Nat} {M : qxM} {st : List Value} {a0 a1 a2 a4 a5 : Option Value} {z : Int32} : Rs L xs (d) 276 10 [a0, a1, a2, some (.int z), a4, a5] st M x = Rs L xs (d) 276 11 [a0, a1, a2, some (.int z), a4, a5] (.int z :: st) M x := Rs_next c276_10 rfl
theorem c276_11 : qx_code 276 11 = some (11, .invokestatic 235, 14, 210, 1, 1823) := by decide +kernel
theorem s276_11 {L : Nat} {xs : Nat → Int32} {d x : Nat} {M : qxM} {st : List Value} {ls : qxL} {z0 : Int32} (hs : st.length ≤ 4) : Rs L xs (d + 1) 276 11 ls (.int z0 :: st) M x = (Rs L xs d 210 0 [some (.int z0)] [] M 0).bind (qx_kn L xs (d + 1) 276 11 14 210 ls st x) := by
  have h1 : qx_act L xs (qx_rt 276) (11, .invokestatic 235, 14, 210, 1, 1823) ls (.int z0 :: st) M = if 1 ≤ (.int z0 :: st).length ∧ st.length ≤ 4 then some (.inr (.inr (.inr (210, [.int z0], st)))) else none := rfl
  rw [if_pos ⟨by simp [List.length_cons]; try omega, hs⟩] at h1
  exact Rs_call c276_11 h1 rfl
theorem c276_14 : qx_code 276 14 = some (14, .iload_n 2, 15, 0, 0, 0) := by decide +kernel
theorem s276_14 {L : Nat} {xs : Nat → Int32} {d x : Nat} {M : qxM} {st : List Value} {a0 a1 a3 a4 a5 : Option Value} {z : Int32} : Rs L xs (d) 276 14 [a0, a1, some (.int z), a3, a4, a5] st M x = Rs L xs (d) 276 15 [a0, a1, some (.int z), a3, a4, a5] (.int z :: st) M x := Rs_next c276_14 rfl
theorem c276_15 : qx_code 276 15 = some (15, .invokevirtual 324, 18, 275, 3, 1978) := by decide +kernel
theorem s276_15 {L : Nat} {xs : Nat → Int32} {d x : Nat} {M : qxM} {st : List Value} {ls : qxL} {t : Nat} {z0 : Int32} {z1 : Int32} (hk : qx_kd t = 18) (hs : st.length ≤ 4) : Rs L xs (d + 1) 276 15 ls (.int z1 :: .int z0 :: .ref t :: st) M x = (Rs L xs d 275 0 [some (.ref t), some (.int z0), some (.int z1), none, none, none] [] M 0).bind (qx_kn L xs (d + 1) 276 15 18 275 ls st x) := by
  have h1 : qx_act L xs (qx_rt 276) (15, .invokevirtual 324, 18, 275, 3, 1978) ls (.int z1 :: .int z0 :: .ref t :: st) M = if 3 ≤ (.int z1 :: .int z0 :: .ref t :: st).length ∧ st.length ≤ 4 then some (.inr (.inr (.inr (275, [.ref t, .int z0, .int z1], st)))) else none := rfl
  rw [if_pos ⟨by simp [List.length_cons]; try omega, hs⟩] at h1
  have h2 := qx_kd_obj (k := 8) (by decide) hk
  exact Rs_call c276_15 h1 (by rw [show qx_args 275 [.ref t, .int z0, .int z1] = decide (qx_sh t = some (.inl 8)) from rfl]; exact decide_eq_true h2)
theorem c276_18 : qx_code 276 18 = some (18, .istore 5, 20, 0, 0, 0) := by decide +kernel
theorem s276_18i {L : Nat} {xs : Nat → Int32} {d x : Nat} {M : qxM} {st : List Value} {a0 a1 a2 a3 a5 : Option Value} {z : Int32} {y : Int32} : Rs L xs (d) 276 18 [a0, a1, a2, a3, some (.int y), a5] (.int z :: st) M x = Rs L xs (d) 276 20 [a0, a1, a2, a3, some (.int y), some (.int z)] st M x := Rs_next c276_18 rfl
theorem s276_18r {L : Nat} {xs : Nat → Int32} {d x : Nat} {M : qxM} {st : List Value} {a0 a1 a2 a3 a5 : Option Value} {z : Int32} {y : Nat} : Rs L xs (d) 276 18 [a0, a1, a2, a3, some (.ref y), a5] (.int z :: st) M x = Rs L xs (d) 276 20 [a0, a1, a2, a3, some (.ref y), some (.int z)] st M x := Rs_next c276_18 rfl
theorem s276_18n {L : Nat} {xs : Nat → Int32} {d x : Nat} {M : qxM} {st : List Value} {a0 a1 a2 a3 a5 : Option Value} {z : Int32} : Rs L xs (d) 276 18 [a0, a1, a2, a3, none, a5] (.int z :: st) M x = Rs L xs (d) 276 20 [a0, a1, a2, a3, none, some (.int z)] st M x := Rs_next c276_18 rfl
theorem c276_20 : qx_code 276 20 = some (20, .iload 4, 22, 0, 0, 0) := by decide +kernel
theorem s276_20 {L : Nat} {xs : Nat → Int32} {d x : Nat} {M : qxM} {st : List Value} {a0 a1 a2 a3 a5 : Option Value} {z : Int32} : Rs L xs (d) 276 20 [a0, a1, a2, a3, some (.int z), a5] st M x = Rs L xs (d) 276 22 [a0, a1, a2, a3, some (.int z), a5] (.int z :: st) M x := Rs_next c276_20 rfl
theorem c276_22 : qx_code 276 22 = some (22, .iload_n 1, 23, 0, 0, 0) := by decide +kernel
theorem s276_22 {L : Nat} {xs : Nat → Int32} {d x : Nat} {M : qxM} {st : List Value} {a0 a2 a3 a4 a5 : Option Value} {z : Int32} : Rs L xs (d) 276 22 [a0, some (.int z), a2, a3, a4, a5] st M x = Rs L xs (d) 276 23 [a0, some (.int z), a2, a3, a4, a5] (.int z :: st) M x := Rs_next c276_22 rfl
theorem c276_23 : qx_code 276 23 = some (23, .if_icmp .ne 6, 26, 29, 0, 0) := by decide +kernel
theorem s276_23 {L : Nat} {xs : Nat → Int32} {d x : Nat} {M : qxM} {st : List Value} {ls : qxL} {z y : Int32} : Rs L xs (d) 276 23 ls (.int y :: .int z :: st) M x = if z = y then Rs L xs (d) 276 26 ls st M x else Rs L xs (d) 276 29 ls st M x := Rs_ite c276_23 rfl
theorem c276_26 : qx_code 276 26 = some (26, .iload 5, 28, 0, 0, 0) := by decide +kernel
theorem s276_26 {L : Nat} {xs : Nat → Int32} {d x : Nat} {M : qxM} {st : List Value} {a0 a1 a2 a3 a4 : Option Value} {z : Int32} : Rs L xs (d) 276 26 [a0, a1, a2, a3, a4, some (.int z)] st M x = Rs L xs (d) 276 28 [a0, a1, a2, a3, a4, some (.int z)] (.int z :: st) M x := Rs_next c276_26 rfl
theorem c276_28 : qx_code 276 28 = some (28, .ireturn, 29, 0, 0, 0) := by decide +kernel
theorem s276_28 {L : Nat} {xs : Nat → Int32} {d x : Nat} {M : qxM} {ls : qxL} {z : Int32} : Rs L xs (d) 276 28 ls [.int z] M x = some (.inl (some (.int z)), M, x) := Rs_ret c276_28 rfl
theorem c276_29 : qx_code 276 29 = some (29, .iload_n 3, 30, 0, 0, 0) := by decide +kernel
theorem s276_29 {L : Nat} {xs : Nat → Int32} {d x : Nat} {M : qxM} {st : List Value} {a0 a1 a2 a4 a5 : Option Value} {z : Int32} : Rs L xs (d) 276 29 [a0, a1, a2, some (.int z), a4, a5] st M x = Rs L xs (d) 276 30 [a0, a1, a2, some (.int z), a4, a5] (.int z :: st) M x := Rs_next c276_29 rfl
theorem c276_30 : qx_code 276 30 = some (30, .iload 5, 32, 0, 0, 0) := by decide +kernel
theorem s276_30 {L : Nat} {xs : Nat → Int32} {d x : Nat} {M : qxM} {st : List Value} {a0 a1 a2 a3 a4 : Option Value} {z : Int32} : Rs L xs (d) 276 30 [a0, a1, a2, a3, a4, some (.int z)] st M x = Rs L xs (d) 276 32 [a0, a1, a2, a3, a4, some (.int z)] (.int z :: st) M x := Rs_next c276_30 rfl
theorem c276_32 : qx_code 276 32 = some (32, .iconst (-1), 33, 0, 0, 0) := by decide +kernel
theorem s276_32 {L : Nat} {xs : Nat → Int32} {d x : Nat} {M : qxM} {st : List Value} {ls : qxL} : Rs L xs (d) 276 32 ls st M x = Rs L xs (d) 276 33 ls (.int (-1) :: st) M x := Rs_next c276_32 rfl
theorem c276_33 : qx_code 276 33 = some (33, .ixor, 34, 0, 0, 0) := by decide +kernel
theorem s276_33 {L : Nat} {xs : Nat → Int32} {d x : Nat} {M : qxM} {st : List Value} {ls : qxL} {z y : Int32} : Rs L xs (d) 276 33 ls (.int y :: .int z :: st) M x = Rs L xs (d) 276 34 ls (.int (z ^^^ y) :: st) M x := Rs_next c276_33 rfl
theorem c276_34 : qx_code 276 34 = some (34, .iand, 35, 0, 0, 0) := by decide +kernel
theorem s276_34 {L : Nat} {xs : Nat → Int32} {d x : Nat} {M : qxM} {st : List Value} {ls : qxL} {z y : Int32} : Rs L xs (d) 276 34 ls (.int y :: .int z :: st) M x = Rs L xs (d) 276 35 ls (.int (z &&& y) :: st) M x := Rs_next c276_34 rfl
theorem c276_35 : qx_code 276 35 = some (35, .istore_n 3, 36, 0, 0, 0) := by decide +kernel
theorem s276_35i {L : Nat} {xs : Nat → Int32} {d x : Nat} {M : qxM} {st : List Value} {a0 a1 a3 a4 a5 : Option Value} {z : Int32} {y : Int32} : Rs L xs (d) 276 35 [a0, a1, some (.int y), a3, a4, a5] (.int z :: st) M x = Rs L xs (d) 276 36 [a0, a1, some (.int y), some (.int z), a4, a5] st M x := Rs_next c276_35 rfl
theorem s276_35r {L : Nat} {xs : Nat → Int32} {d x : Nat} {M : qxM} {st : List Value} {a0 a1 a3 a4 a5 : Option Value} {z : Int32} {y : Nat} : Rs L xs (d) 276 35 [a0, a1, some (.ref y), a3, a4, a5] (.int z :: st) M x = Rs L xs (d) 276 36 [a0, a1, some (.ref y), some (.int z), a4, a5] st M x := Rs_next c276_35 rfl
theorem s276_35n {L : Nat} {xs : Nat → Int32} {d x : Nat} {M : qxM} {st : List Value} {a0 a1 a3 a4 a5 : Option Value} {z : Int32} : Rs L xs (d) 276 35 [a0, a1, none, a3, a4, a5] (.int z :: st) M x = Rs L xs (d) 276 36 [a0, a1, none, some (.int z), a4, a5] st M x := Rs_next c276_35 rfl
theorem c276_36 : qx_code 276 36 = some (36, .iinc 4 1, 39, 0, 0, 0) := by decide +kernel
theorem s276_36i {L : Nat} {xs : Nat → Int32} {d x : Nat} {M : qxM} {st : List Value} {a0 a1 a2 a5 : Option Value} {z : Int32} {y : Int32} : Rs L xs (d) 276 36 [a0, a1, a2, some (.int y), some (.int z), a5] st M x = Rs L xs (d) 276 39 [a0, a1, a2, some (.int y), some (.int (z + (nI 1))), a5] st M x := Rs_next c276_36 rfl
theorem s276_36r {L : Nat} {xs : Nat → Int32} {d x : Nat} {M : qxM} {st : List Value} {a0 a1 a2 a5 : Option Value} {z : Int32} {y : Nat} : Rs L xs (d) 276 36 [a0, a1, a2, some (.ref y), some (.int z), a5] st M x = Rs L xs (d) 276 39 [a0, a1, a2, some (.ref y), some (.int (z + (nI 1))), a5] st M x := Rs_next c276_36 rfl
theorem s276_36n {L : Nat} {xs : Nat → Int32} {d x : Nat} {M : qxM} {st : List Value} {a0 a1 a2 a5 : Option Value} {z : Int32} : Rs L xs (d) 276 36 [a0, a1, a2, none, some (.int z), a5] st M x = Rs L xs (d) 276 39 [a0, a1, a2, none, some (.int (z + (nI 1))), a5] st M x := Rs_next c276_36 rfl
theorem c276_39 : qx_code 276 39 = some (39, .goto (-34), 42, 5, 0, 0) := by decide +kernel
theorem s276_39 {L : Nat} {xs : Nat → Int32} {d x : Nat} {M : qxM} {st : List Value} {ls : qxL} : Rs L xs (d) 276 39 ls st M x = Rs L xs (d) 276 5 ls st M x := Rs_next c276_39 rfl
theorem c276_42 : qx_code 276 42 = some (42, .iconst (-1), 43, 0, 0, 0) := by decide +kernel
theorem s276_42 {L : Nat} {xs : Nat → Int32} {d x : Nat} {M : qxM} {st : List Value} {ls : qxL} : Rs L xs (d) 276 42 ls st M x = Rs L xs (d) 276 43 ls (.int (-1) :: st) M x := Rs_next c276_42 rfl
theorem c276_43 : qx_code 276 43 = some (43, .ireturn, 44, 0, 0, 0) := by decide +kernel
theorem s276_43 {L : Nat} {xs : Nat → Int32} {d x : Nat} {M : qxM} {ls : qxL} {z : Int32} : Rs L xs (d) 276 43 ls [.int z] M x = some (.inl (some (.int z)), M, x) := Rs_ret c276_43 rfl
theorem c277_0 : qx_code 277 0 = some (0, .iconst 0, 1, 0, 0, 0) := by decide +kernel
theorem s277_0 {L : Nat} {xs : Nat → Int32} {d x : Nat} {M : qxM} {st : List Value} {ls : qxL} : Rs L xs (d) 277 0 ls st M x = Rs L xs (d) 277 1 ls (.int (nI 0) :: st) M x := Rs_next c277_0 rfl
theorem c277_1 : qx_code 277 1 = some (1, .istore_n 2, 2, 0, 0, 0) := by decide +kernel
theorem s277_1i {L : Nat} {xs : Nat → Int32} {d x : Nat} {M : qxM} {st : List Value} {a0 a2 : Option Value} {z : Int32} {y : Int32} : Rs L xs (d) 277 1 [a0, some (.int y), a2] (.int z :: st) M x = Rs L xs (d) 277 2 [a0, some (.int y), some (.int z)] st M x := Rs_next c277_1 rfl
theorem s277_1r {L : Nat} {xs : Nat → Int32} {d x : Nat} {M : qxM} {st : List Value} {a0 a2 : Option Value} {z : Int32} {y : Nat} : Rs L xs (d) 277 1 [a0, some (.ref y), a2] (.int z :: st) M x = Rs L xs (d) 277 2 [a0, some (.ref y), some (.int z)] st M x := Rs_next c277_1 rfl
theorem s277_1n {L : Nat} {xs : Nat → Int32} {d x : Nat} {M : qxM} {st : List Value} {a0 a2 : Option Value} {z : Int32} : Rs L xs (d) 277 1 [a0, none, a2] (.int z :: st) M x = Rs L xs (d) 277 2 [a0, none, some (.int z)] st M x := Rs_next c277_1 rfl
theorem c277_2 : qx_code 277 2 = some (2, .aload_n 0, 3, 0, 0, 0) := by decide +kernel
theorem s277_2 {L : Nat} {xs : Nat → Int32} {d x : Nat} {M : qxM} {st : List Value} {a1 a2 : Option Value} {z : Nat} : Rs L xs (d) 277 2 [some (.ref z), a1, a2] st M x = Rs L xs (d) 277 3 [some (.ref z), a1, a2] (.ref z :: st) M x := Rs_next c277_2 rfl
theorem c277_3 : qx_code 277 3 = some (3, .iload_n 2, 4, 0, 0, 0) := by decide +kernel
theorem s277_3 {L : Nat} {xs : Nat → Int32} {d x : Nat} {M : qxM} {st : List Value} {a0 a1 : Option Value} {z : Int32} : Rs L xs (d) 277 3 [a0, a1, some (.int z)] st M x = Rs L xs (d) 277 4 [a0, a1, some (.int z)] (.int z :: st) M x := Rs_next c277_3 rfl
theorem c277_4 : qx_code 277 4 = some (4, .iload_n 1, 5, 0, 0, 0) := by decide +kernel
theorem s277_4 {L : Nat} {xs : Nat → Int32} {d x : Nat} {M : qxM} {st : List Value} {a0 a2 : Option Value} {z : Int32} : Rs L xs (d) 277 4 [a0, some (.int z), a2] st M x = Rs L xs (d) 277 5 [a0, some (.int z), a2] (.int z :: st) M x := Rs_next c277_4 rfl
theorem c277_5 : qx_code 277 5 = some (5, .invokevirtual 327, 8, 276, 3, 1974) := by decide +kernel
theorem s277_5 {L : Nat} {xs : Nat → Int32} {d x : Nat} {M : qxM} {st : List Value} {ls : qxL} {t : Nat} {z0 : Int32} {z1 : Int32} (hk : qx_kd t = 18) (hs : st.length ≤ 4) : Rs L xs (d + 1) 277 5 ls (.int z1 :: .int z0 :: .ref t :: st) M x = (Rs L xs d 276 0 [some (.ref t), some (.int z0), some (.int z1), none, none, none] [] M 0).bind (qx_kn L xs (d + 1) 277 5 8 276 ls st x) := by
  have h1 : qx_act L xs (qx_rt 277) (5, .invokevirtual 327, 8, 276, 3, 1974) ls (.int z1 :: .int z0 :: .ref t :: st) M = if 3 ≤ (.int z1 :: .int z0 :: .ref t :: st).length ∧ st.length ≤ 4 then some (.inr (.inr (.inr (276, [.ref t, .int z0, .int z1], st)))) else none := rfl
  rw [if_pos ⟨by simp [List.length_cons]; try omega, hs⟩] at h1
  have h2 := qx_kd_obj (k := 8) (by decide) hk
  exact Rs_call c277_5 h1 (by rw [show qx_args 276 [.ref t, .int z0, .int z1] = decide (qx_sh t = some (.inl 8)) from rfl]; exact decide_eq_true h2)
theorem c277_8 : qx_code 277 8 = some (8, .iconst (-1), 9, 0, 0, 0) := by decide +kernel
theorem s277_8 {L : Nat} {xs : Nat → Int32} {d x : Nat} {M : qxM} {st : List Value} {ls : qxL} : Rs L xs (d) 277 8 ls st M x = Rs L xs (d) 277 9 ls (.int (-1) :: st) M x := Rs_next c277_8 rfl
theorem c277_9 : qx_code 277 9 = some (9, .if_icmp .eq 9, 12, 18, 0, 0) := by decide +kernel
theorem s277_9 {L : Nat} {xs : Nat → Int32} {d x : Nat} {M : qxM} {st : List Value} {ls : qxL} {z y : Int32} : Rs L xs (d) 277 9 ls (.int y :: .int z :: st) M x = if z = y then Rs L xs (d) 277 18 ls st M x else Rs L xs (d) 277 12 ls st M x := Rs_ite c277_9 rfl
theorem c277_12 : qx_code 277 12 = some (12, .iinc 2 1, 15, 0, 0, 0) := by decide +kernel
theorem s277_12i {L : Nat} {xs : Nat → Int32} {d x : Nat} {M : qxM} {st : List Value} {a0 : Option Value} {z : Int32} {y : Int32} : Rs L xs (d) 277 12 [a0, some (.int y), some (.int z)] st M x = Rs L xs (d) 277 15 [a0, some (.int y), some (.int (z + (nI 1)))] st M x := Rs_next c277_12 rfl
theorem s277_12r {L : Nat} {xs : Nat → Int32} {d x : Nat} {M : qxM} {st : List Value} {a0 : Option Value} {z : Int32} {y : Nat} : Rs L xs (d) 277 12 [a0, some (.ref y), some (.int z)] st M x = Rs L xs (d) 277 15 [a0, some (.ref y), some (.int (z + (nI 1)))] st M x := Rs_next c277_12 rfl
theorem s277_12n {L : Nat} {xs : Nat → Int32} {d x : Nat} {M : qxM} {st : List Value} {a0 : Option Value} {z : Int32} : Rs L xs (d) 277 12 [a0, none, some (.int z)] st M x = Rs L xs (d) 277 15 [a0, none, some (.int (z + (nI 1)))] st M x := Rs_next c277_12 rfl
theorem c277_15 : qx_code 277 15 = some (15, .goto (-13), 18, 2, 0, 0) := by decide +kernel
theorem s277_15 {L : Nat} {xs : Nat → Int32} {d x : Nat} {M : qxM} {st : List Value} {ls : qxL} : Rs L xs (d) 277 15 ls st M x = Rs L xs (d) 277 2 ls st M x := Rs_next c277_15 rfl
theorem c277_18 : qx_code 277 18 = some (18, .iload_n 2, 19, 0, 0, 0) := by decide +kernel
theorem s277_18 {L : Nat} {xs : Nat → Int32} {d x : Nat} {M : qxM} {st : List Value} {a0 a1 : Option Value} {z : Int32} : Rs L xs (d) 277 18 [a0, a1, some (.int z)] st M x = Rs L xs (d) 277 19 [a0, a1, some (.int z)] (.int z :: st) M x := Rs_next c277_18 rfl
theorem c277_19 : qx_code 277 19 = some (19, .ireturn, 20, 0, 0, 0) := by decide +kernel
theorem s277_19 {L : Nat} {xs : Nat → Int32} {d x : Nat} {M : qxM} {ls : qxL} {z : Int32} : Rs L xs (d) 277 19 ls [.int z] M x = some (.inl (some (.int z)), M, x) := Rs_ret c277_19 rfl
theorem c278_0 : qx_code 278 0 = some (0, .aload_n 0, 1, 0, 0, 0) := by decide +kernel
theorem s278_0 {L : Nat} {xs : Nat → Int32} {d x : Nat} {M : qxM} {st : List Value} {z : Nat} : Rs L xs (d) 278 0 [some (.ref z)] st M x = Rs L xs (d) 278 1 [some (.ref z)] (.ref z :: st) M x := Rs_next c278_0 rfl
theorem c278_1 : qx_code 278 1 = some (1, .invokevirtual 306, 4, 263, 1, 1882) := by decide +kernel
theorem s278_1 {L : Nat} {xs : Nat → Int32} {d x : Nat} {M : qxM} {st : List Value} {ls : qxL} {t : Nat} (hk : qx_kd t = 18) (hs : st.length ≤ 4) : Rs L xs (d + 1) 278 1 ls (.ref t :: st) M x = (Rs L xs d 263 0 [some (.ref t)] [] M 0).bind (qx_kn L xs (d + 1) 278 1 4 263 ls st x) := by
  have h1 : qx_act L xs (qx_rt 278) (1, .invokevirtual 306, 4, 263, 1, 1882) ls (.ref t :: st) M = if 1 ≤ (.ref t :: st).length ∧ st.length ≤ 4 then some (.inr (.inr (.inr (263, [.ref t], st)))) else none := rfl
  rw [if_pos ⟨by simp [List.length_cons]; try omega, hs⟩] at h1
  have h2 := qx_kd_obj (k := 8) (by decide) hk
  exact Rs_call c278_1 h1 (by rw [show qx_args 263 [.ref t] = decide (qx_sh t = some (.inl 8)) from rfl]; exact decide_eq_true h2)
theorem c278_4 : qx_code 278 4 = some (4, .ifCond .eq 10, 7, 14, 0, 0) := by decide +kernel
theorem s278_4 {L : Nat} {xs : Nat → Int32} {d x : Nat} {M : qxM} {st : List Value} {ls : qxL} {z : Int32} : Rs L xs (d) 278 4 ls (.int z :: st) M x = if z = 0 then Rs L xs (d) 278 14 ls st M x else Rs L xs (d) 278 7 ls st M x := Rs_ite c278_4 rfl
theorem c278_7 : qx_code 278 7 = some (7, .aload_n 0, 8, 0, 0, 0) := by decide +kernel
theorem s278_7 {L : Nat} {xs : Nat → Int32} {d x : Nat} {M : qxM} {st : List Value} {z : Nat} : Rs L xs (d) 278 7 [some (.ref z)] st M x = Rs L xs (d) 278 8 [some (.ref z)] (.ref z :: st) M x := Rs_next c278_7 rfl
theorem c278_8 : qx_code 278 8 = some (8, .invokevirtual 318, 11, 271, 1, 1922) := by decide +kernel
theorem s278_8 {L : Nat} {xs : Nat → Int32} {d x : Nat} {M : qxM} {st : List Value} {ls : qxL} {t : Nat} (hk : qx_kd t = 18) (hs : st.length ≤ 4) : Rs L xs (d + 1) 278 8 ls (.ref t :: st) M x = (Rs L xs d 271 0 [some (.ref t), none] [] M 0).bind (qx_kn L xs (d + 1) 278 8 11 271 ls st x) := by
  have h1 : qx_act L xs (qx_rt 278) (8, .invokevirtual 318, 11, 271, 1, 1922) ls (.ref t :: st) M = if 1 ≤ (.ref t :: st).length ∧ st.length ≤ 4 then some (.inr (.inr (.inr (271, [.ref t], st)))) else none := rfl
  rw [if_pos ⟨by simp [List.length_cons]; try omega, hs⟩] at h1
  have h2 := qx_kd_obj (k := 8) (by decide) hk
  exact Rs_call c278_8 h1 (by rw [show qx_args 271 [.ref t] = decide (qx_sh t = some (.inl 8)) from rfl]; exact decide_eq_true h2)
theorem c278_11 : qx_code 278 11 = some (11, .goto 4, 14, 15, 0, 0) := by decide +kernel
theorem s278_11 {L : Nat} {xs : Nat → Int32} {d x : Nat} {M : qxM} {st : List Value} {ls : qxL} : Rs L xs (d) 278 11 ls st M x = Rs L xs (d) 278 15 ls st M x := Rs_next c278_11 rfl
theorem c278_14 : qx_code 278 14 = some (14, .iconst 0, 15, 0, 0, 0) := by decide +kernel
theorem s278_14 {L : Nat} {xs : Nat → Int32} {d x : Nat} {M : qxM} {st : List Value} {ls : qxL} : Rs L xs (d) 278 14 ls st M x = Rs L xs (d) 278 15 ls (.int (nI 0) :: st) M x := Rs_next c278_14 rfl
theorem c278_15 : qx_code 278 15 = some (15, .ireturn, 16, 0, 0, 0) := by decide +kernel
theorem s278_15 {L : Nat} {xs : Nat → Int32} {d x : Nat} {M : qxM} {ls : qxL} {z : Int32} : Rs L xs (d) 278 15 ls [.int z] M x = some (.inl (some (.int z)), M, x) := Rs_ret c278_15 rfl
theorem c279_0 : qx_code 279 0 = some (0, .aload_n 0, 1, 0, 0, 0) := by decide +kernel
theorem s279_0 {L : Nat} {xs : Nat → Int32} {d x : Nat} {M : qxM} {st : List Value} {z : Nat} : Rs L xs (d) 279 0 [some (.ref z)] st M x = Rs L xs (d) 279 1 [some (.ref z)] (.ref z :: st) M x := Rs_next c279_0 rfl
theorem c279_1 : qx_code 279 1 = some (1, .invokevirtual 306, 4, 263, 1, 1882) := by decide +kernel
theorem s279_1 {L : Nat} {xs : Nat → Int32} {d x : Nat} {M : qxM} {st : List Value} {ls : qxL} {t : Nat} (hk : qx_kd t = 18) (hs : st.length ≤ 4) : Rs L xs (d + 1) 279 1 ls (.ref t :: st) M x = (Rs L xs d 263 0 [some (.ref t)] [] M 0).bind (qx_kn L xs (d + 1) 279 1 4 263 ls st x) := by
  have h1 : qx_act L xs (qx_rt 279) (1, .invokevirtual 306, 4, 263, 1, 1882) ls (.ref t :: st) M = if 1 ≤ (.ref t :: st).length ∧ st.length ≤ 4 then some (.inr (.inr (.inr (263, [.ref t], st)))) else none := rfl
  rw [if_pos ⟨by simp [List.length_cons]; try omega, hs⟩] at h1
  have h2 := qx_kd_obj (k := 8) (by decide) hk
  exact Rs_call c279_1 h1 (by rw [show qx_args 263 [.ref t] = decide (qx_sh t = some (.inl 8)) from rfl]; exact decide_eq_true h2)
theorem c279_4 : qx_code 279 4 = some (4, .ifCond .eq 18, 7, 22, 0, 0) := by decide +kernel
theorem s279_4 {L : Nat} {xs : Nat → Int32} {d x : Nat} {M : qxM} {st : List Value} {ls : qxL} {z : Int32} : Rs L xs (d) 279 4 ls (.int z :: st) M x = if z = 0 then Rs L xs (d) 279 22 ls st M x else Rs L xs (d) 279 7 ls st M x := Rs_ite c279_4 rfl
theorem c279_7 : qx_code 279 7 = some (7, .aload_n 0, 8, 0, 0, 0) := by decide +kernel
theorem s279_7 {L : Nat} {xs : Nat → Int32} {d x : Nat} {M : qxM} {st : List Value} {z : Nat} : Rs L xs (d) 279 7 [some (.ref z)] st M x = Rs L xs (d) 279 8 [some (.ref z)] (.ref z :: st) M x := Rs_next c279_7 rfl
theorem c279_8 : qx_code 279 8 = some (8, .invokevirtual 318, 11, 271, 1, 1922) := by decide +kernel
theorem s279_8 {L : Nat} {xs : Nat → Int32} {d x : Nat} {M : qxM} {st : List Value} {ls : qxL} {t : Nat} (hk : qx_kd t = 18) (hs : st.length ≤ 4) : Rs L xs (d + 1) 279 8 ls (.ref t :: st) M x = (Rs L xs d 271 0 [some (.ref t), none] [] M 0).bind (qx_kn L xs (d + 1) 279 8 11 271 ls st x) := by
  have h1 : qx_act L xs (qx_rt 279) (8, .invokevirtual 318, 11, 271, 1, 1922) ls (.ref t :: st) M = if 1 ≤ (.ref t :: st).length ∧ st.length ≤ 4 then some (.inr (.inr (.inr (271, [.ref t], st)))) else none := rfl
  rw [if_pos ⟨by simp [List.length_cons]; try omega, hs⟩] at h1
  have h2 := qx_kd_obj (k := 8) (by decide) hk
  exact Rs_call c279_8 h1 (by rw [show qx_args 271 [.ref t] = decide (qx_sh t = some (.inl 8)) from rfl]; exact decide_eq_true h2)
theorem c279_11 : qx_code 279 11 = some (11, .aload_n 0, 12, 0, 0, 0) := by decide +kernel
theorem s279_11 {L : Nat} {xs : Nat → Int32} {d x : Nat} {M : qxM} {st : List Value} {z : Nat} : Rs L xs (d) 279 11 [some (.ref z)] st M x = Rs L xs (d) 279 12 [some (.ref z)] (.ref z :: st) M x := Rs_next c279_11 rfl
theorem c279_12 : qx_code 279 12 = some (12, .invokevirtual 223, 15, 224, 1, 1791) := by decide +kernel
theorem s279_12 {L : Nat} {xs : Nat → Int32} {d x : Nat} {M : qxM} {st : List Value} {ls : qxL} {t : Nat} (hk : qx_kd t = 18) (hs : st.length ≤ 4) : Rs L xs (d + 1) 279 12 ls (.ref t :: st) M x = (Rs L xs d 224 0 [some (.ref t)] [] M 0).bind (qx_kn L xs (d + 1) 279 12 15 224 ls st x) := by
  have h1 : qx_act L xs (qx_rt 279) (12, .invokevirtual 223, 15, 224, 1, 1791) ls (.ref t :: st) M = if 1 ≤ (.ref t :: st).length ∧ st.length ≤ 4 then some (.inr (.inr (.inr (224, [.ref t], st)))) else none := rfl
  rw [if_pos ⟨by simp [List.length_cons]; try omega, hs⟩] at h1
  have h2 := qx_kd_obj (k := 8) (by decide) hk
  exact Rs_call c279_12 h1 (by rw [show qx_args 224 [.ref t] = decide (qx_sh t = some (.inl 8)) from rfl]; exact decide_eq_true h2)
theorem c279_15 : qx_code 279 15 = some (15, .if_icmp .ne 7, 18, 22, 0, 0) := by decide +kernel
theorem s279_15 {L : Nat} {xs : Nat → Int32} {d x : Nat} {M : qxM} {st : List Value} {ls : qxL} {z y : Int32} : Rs L xs (d) 279 15 ls (.int y :: .int z :: st) M x = if z = y then Rs L xs (d) 279 18 ls st M x else Rs L xs (d) 279 22 ls st M x := Rs_ite c279_15 rfl
theorem c279_18 : qx_code 279 18 = some (18, .iconst 1, 19, 0, 0, 0) := by decide +kernel
theorem s279_18 {L : Nat} {xs : Nat → Int32} {d x : Nat} {M : qxM} {st : List Value} {ls : qxL} : Rs L xs (d) 279 18 ls st M x = Rs L xs (d) 279 19 ls (.int (nI 1) :: st) M x := Rs_next c279_18 rfl
theorem c279_19 : qx_code 279 19 = some (19, .goto 4, 22, 23, 0, 0) := by decide +kernel
theorem s279_19 {L : Nat} {xs : Nat → Int32} {d x : Nat} {M : qxM} {st : List Value} {ls : qxL} : Rs L xs (d) 279 19 ls st M x = Rs L xs (d) 279 23 ls st M x := Rs_next c279_19 rfl
theorem c279_22 : qx_code 279 22 = some (22, .iconst 0, 23, 0, 0, 0) := by decide +kernel
theorem s279_22 {L : Nat} {xs : Nat → Int32} {d x : Nat} {M : qxM} {st : List Value} {ls : qxL} : Rs L xs (d) 279 22 ls st M x = Rs L xs (d) 279 23 ls (.int (nI 0) :: st) M x := Rs_next c279_22 rfl
theorem c279_23 : qx_code 279 23 = some (23, .ireturn, 24, 0, 0, 0) := by decide +kernel
theorem s279_23 {L : Nat} {xs : Nat → Int32} {d x : Nat} {M : qxM} {ls : qxL} {z : Int32} (h01 : z = 0 ∨ z = 1) : Rs L xs (d) 279 23 ls [.int z] M x = some (.inl (some (.int z)), M, x) := Rs_retw h01 c279_23 rfl
theorem c280_0 : qx_code 280 0 = some (0, .aload_n 0, 1, 0, 0, 0) := by decide +kernel
theorem s280_0 {L : Nat} {xs : Nat → Int32} {d x : Nat} {M : qxM} {st : List Value} {z : Nat} : Rs L xs (d) 280 0 [some (.ref z)] st M x = Rs L xs (d) 280 1 [some (.ref z)] (.ref z :: st) M x := Rs_next c280_0 rfl
theorem c280_1 : qx_code 280 1 = some (1, .invokevirtual 306, 4, 263, 1, 1882) := by decide +kernel
theorem s280_1 {L : Nat} {xs : Nat → Int32} {d x : Nat} {M : qxM} {st : List Value} {ls : qxL} {t : Nat} (hk : qx_kd t = 18) (hs : st.length ≤ 4) : Rs L xs (d + 1) 280 1 ls (.ref t :: st) M x = (Rs L xs d 263 0 [some (.ref t)] [] M 0).bind (qx_kn L xs (d + 1) 280 1 4 263 ls st x) := by
  have h1 : qx_act L xs (qx_rt 280) (1, .invokevirtual 306, 4, 263, 1, 1882) ls (.ref t :: st) M = if 1 ≤ (.ref t :: st).length ∧ st.length ≤ 4 then some (.inr (.inr (.inr (263, [.ref t], st)))) else none := rfl
  rw [if_pos ⟨by simp [List.length_cons]; try omega, hs⟩] at h1
  have h2 := qx_kd_obj (k := 8) (by decide) hk
  exact Rs_call c280_1 h1 (by rw [show qx_args 263 [.ref t] = decide (qx_sh t = some (.inl 8)) from rfl]; exact decide_eq_true h2)
theorem c280_4 : qx_code 280 4 = some (4, .ifCond .eq 19, 7, 23, 0, 0) := by decide +kernel
theorem s280_4 {L : Nat} {xs : Nat → Int32} {d x : Nat} {M : qxM} {st : List Value} {ls : qxL} {z : Int32} : Rs L xs (d) 280 4 ls (.int z :: st) M x = if z = 0 then Rs L xs (d) 280 23 ls st M x else Rs L xs (d) 280 7 ls st M x := Rs_ite c280_4 rfl
theorem c280_7 : qx_code 280 7 = some (7, .aload_n 0, 8, 0, 0, 0) := by decide +kernel
theorem s280_7 {L : Nat} {xs : Nat → Int32} {d x : Nat} {M : qxM} {st : List Value} {z : Nat} : Rs L xs (d) 280 7 [some (.ref z)] st M x = Rs L xs (d) 280 8 [some (.ref z)] (.ref z :: st) M x := Rs_next c280_7 rfl
theorem c280_8 : qx_code 280 8 = some (8, .getfield 9, 11, 8, 1, 1546) := by decide +kernel
theorem s280_8 {L : Nat} {xs : Nat → Int32} {d x : Nat} {M : qxM} {st : List Value} {ls : qxL} {t : Nat} (hk : qx_kd t = 18) : Rs L xs (d) 280 8 ls (.ref t :: st) M x = Rs L xs (d) 280 11 ls (.ref (t + 1) :: st) M x := Rs_when (qx_kd_obj (k := 8) (by decide) hk) c280_8 rfl
theorem c280_11 : qx_code 280 11 = some (11, .iconst 0, 12, 0, 0, 0) := by decide +kernel
theorem s280_11 {L : Nat} {xs : Nat → Int32} {d x : Nat} {M : qxM} {st : List Value} {ls : qxL} : Rs L xs (d) 280 11 ls st M x = Rs L xs (d) 280 12 ls (.int (nI 0) :: st) M x := Rs_next c280_11 rfl
theorem c280_12 : qx_code 280 12 = some (12, .iaload, 13, 0, 0, 0) := by decide +kernel
theorem s280_12 {L : Nat} {xs : Nat → Int32} {d x : Nat} {M : qxM} {st : List Value} {ls : qxL} {t : Nat} {j : Int32} (hk : qx_kd t = 0) (hj : qx_ib j (qx_ln t) = true) : Rs L xs (d) 280 12 ls (.int j :: .ref t :: st) M x = Rs L xs (d) 280 13 ls (.int (M.1 t j.toNatClampNeg) :: st) M x := by
  have h1 := qx_kd_row (k := 0) (by decide) hk
  exact Rs_unless (qx_ib_not hj) c280_12 (by unfold qx_act; dsimp only; rw [h1]; rfl)
theorem c280_13 : qx_code 280 13 = some (13, .iconst 2, 14, 0, 0, 0) := by decide +kernel
theorem s280_13 {L : Nat} {xs : Nat → Int32} {d x : Nat} {M : qxM} {st : List Value} {ls : qxL} : Rs L xs (d) 280 13 ls st M x = Rs L xs (d) 280 14 ls (.int (nI 2) :: st) M x := Rs_next c280_13 rfl
theorem c280_14 : qx_code 280 14 = some (14, .aload_n 0, 15, 0, 0, 0) := by decide +kernel
theorem s280_14 {L : Nat} {xs : Nat → Int32} {d x : Nat} {M : qxM} {st : List Value} {z : Nat} : Rs L xs (d) 280 14 [some (.ref z)] st M x = Rs L xs (d) 280 15 [some (.ref z)] (.ref z :: st) M x := Rs_next c280_14 rfl
theorem c280_15 : qx_code 280 15 = some (15, .invokevirtual 318, 18, 271, 1, 1922) := by decide +kernel
theorem s280_15 {L : Nat} {xs : Nat → Int32} {d x : Nat} {M : qxM} {st : List Value} {ls : qxL} {t : Nat} (hk : qx_kd t = 18) (hs : st.length ≤ 4) : Rs L xs (d + 1) 280 15 ls (.ref t :: st) M x = (Rs L xs d 271 0 [some (.ref t), none] [] M 0).bind (qx_kn L xs (d + 1) 280 15 18 271 ls st x) := by
  have h1 : qx_act L xs (qx_rt 280) (15, .invokevirtual 318, 18, 271, 1, 1922) ls (.ref t :: st) M = if 1 ≤ (.ref t :: st).length ∧ st.length ≤ 4 then some (.inr (.inr (.inr (271, [.ref t], st)))) else none := rfl
  rw [if_pos ⟨by simp [List.length_cons]; try omega, hs⟩] at h1
  have h2 := qx_kd_obj (k := 8) (by decide) hk
  exact Rs_call c280_15 h1 (by rw [show qx_args 271 [.ref t] = decide (qx_sh t = some (.inl 8)) from rfl]; exact decide_eq_true h2)
theorem c280_18 : qx_code 280 18 = some (18, .imul, 19, 0, 0, 0) := by decide +kernel
theorem s280_18 {L : Nat} {xs : Nat → Int32} {d x : Nat} {M : qxM} {st : List Value} {ls : qxL} {z y : Int32} : Rs L xs (d) 280 18 ls (.int y :: .int z :: st) M x = Rs L xs (d) 280 19 ls (.int (z * y) :: st) M x := Rs_next c280_18 rfl
theorem c280_19 : qx_code 280 19 = some (19, .isub, 20, 0, 0, 0) := by decide +kernel
theorem s280_19 {L : Nat} {xs : Nat → Int32} {d x : Nat} {M : qxM} {st : List Value} {ls : qxL} {z y : Int32} : Rs L xs (d) 280 19 ls (.int y :: .int z :: st) M x = Rs L xs (d) 280 20 ls (.int (z - y) :: st) M x := Rs_next c280_19 rfl
theorem c280_20 : qx_code 280 20 = some (20, .goto 4, 23, 24, 0, 0) := by decide +kernel
theorem s280_20 {L : Nat} {xs : Nat → Int32} {d x : Nat} {M : qxM} {st : List Value} {ls : qxL} : Rs L xs (d) 280 20 ls st M x = Rs L xs (d) 280 24 ls st M x := Rs_next c280_20 rfl
theorem c280_23 : qx_code 280 23 = some (23, .iconst 0, 24, 0, 0, 0) := by decide +kernel
theorem s280_23 {L : Nat} {xs : Nat → Int32} {d x : Nat} {M : qxM} {st : List Value} {ls : qxL} : Rs L xs (d) 280 23 ls st M x = Rs L xs (d) 280 24 ls (.int (nI 0) :: st) M x := Rs_next c280_23 rfl
theorem c280_24 : qx_code 280 24 = some (24, .ireturn, 25, 0, 0, 0) := by decide +kernel
theorem s280_24 {L : Nat} {xs : Nat → Int32} {d x : Nat} {M : qxM} {ls : qxL} {z : Int32} : Rs L xs (d) 280 24 ls [.int z] M x = some (.inl (some (.int z)), M, x) := Rs_ret c280_24 rfl
theorem c281_0 : qx_code 281 0 = some (0, .aload_n 0, 1, 0, 0, 0) := by decide +kernel
theorem s281_0 {L : Nat} {xs : Nat → Int32} {d x : Nat} {M : qxM} {st : List Value} {z : Nat} : Rs L xs (d) 281 0 [some (.ref z)] st M x = Rs L xs (d) 281 1 [some (.ref z)] (.ref z :: st) M x := Rs_next c281_0 rfl
theorem c281_1 : qx_code 281 1 = some (1, .invokevirtual 306, 4, 263, 1, 1882) := by decide +kernel
theorem s281_1 {L : Nat} {xs : Nat → Int32} {d x : Nat} {M : qxM} {st : List Value} {ls : qxL} {t : Nat} (hk : qx_kd t = 18) (hs : st.length ≤ 4) : Rs L xs (d + 1) 281 1 ls (.ref t :: st) M x = (Rs L xs d 263 0 [some (.ref t)] [] M 0).bind (qx_kn L xs (d + 1) 281 1 4 263 ls st x) := by
  have h1 : qx_act L xs (qx_rt 281) (1, .invokevirtual 306, 4, 263, 1, 1882) ls (.ref t :: st) M = if 1 ≤ (.ref t :: st).length ∧ st.length ≤ 4 then some (.inr (.inr (.inr (263, [.ref t], st)))) else none := rfl
  rw [if_pos ⟨by simp [List.length_cons]; try omega, hs⟩] at h1
  have h2 := qx_kd_obj (k := 8) (by decide) hk
  exact Rs_call c281_1 h1 (by rw [show qx_args 263 [.ref t] = decide (qx_sh t = some (.inl 8)) from rfl]; exact decide_eq_true h2)
theorem c281_4 : qx_code 281 4 = some (4, .ifCond .eq 10, 7, 14, 0, 0) := by decide +kernel
theorem s281_4 {L : Nat} {xs : Nat → Int32} {d x : Nat} {M : qxM} {st : List Value} {ls : qxL} {z : Int32} : Rs L xs (d) 281 4 ls (.int z :: st) M x = if z = 0 then Rs L xs (d) 281 14 ls st M x else Rs L xs (d) 281 7 ls st M x := Rs_ite c281_4 rfl
theorem c281_7 : qx_code 281 7 = some (7, .aload_n 0, 8, 0, 0, 0) := by decide +kernel
theorem s281_7 {L : Nat} {xs : Nat → Int32} {d x : Nat} {M : qxM} {st : List Value} {z : Nat} : Rs L xs (d) 281 7 [some (.ref z)] st M x = Rs L xs (d) 281 8 [some (.ref z)] (.ref z :: st) M x := Rs_next c281_7 rfl
theorem c281_8 : qx_code 281 8 = some (8, .invokevirtual 330, 11, 273, 1, 1946) := by decide +kernel
theorem s281_8 {L : Nat} {xs : Nat → Int32} {d x : Nat} {M : qxM} {st : List Value} {ls : qxL} {t : Nat} (hk : qx_kd t = 18) (hs : st.length ≤ 4) : Rs L xs (d + 1) 281 8 ls (.ref t :: st) M x = (Rs L xs d 273 0 [some (.ref t), none, none, none] [] M 0).bind (qx_kn L xs (d + 1) 281 8 11 273 ls st x) := by
  have h1 : qx_act L xs (qx_rt 281) (8, .invokevirtual 330, 11, 273, 1, 1946) ls (.ref t :: st) M = if 1 ≤ (.ref t :: st).length ∧ st.length ≤ 4 then some (.inr (.inr (.inr (273, [.ref t], st)))) else none := rfl
  rw [if_pos ⟨by simp [List.length_cons]; try omega, hs⟩] at h1
  have h2 := qx_kd_obj (k := 8) (by decide) hk
  exact Rs_call c281_8 h1 (by rw [show qx_args 273 [.ref t] = decide (qx_sh t = some (.inl 8)) from rfl]; exact decide_eq_true h2)
theorem c281_11 : qx_code 281 11 = some (11, .goto 4, 14, 15, 0, 0) := by decide +kernel
theorem s281_11 {L : Nat} {xs : Nat → Int32} {d x : Nat} {M : qxM} {st : List Value} {ls : qxL} : Rs L xs (d) 281 11 ls st M x = Rs L xs (d) 281 15 ls st M x := Rs_next c281_11 rfl
theorem c281_14 : qx_code 281 14 = some (14, .iconst 0, 15, 0, 0, 0) := by decide +kernel
theorem s281_14 {L : Nat} {xs : Nat → Int32} {d x : Nat} {M : qxM} {st : List Value} {ls : qxL} : Rs L xs (d) 281 14 ls st M x = Rs L xs (d) 281 15 ls (.int (nI 0) :: st) M x := Rs_next c281_14 rfl
theorem c281_15 : qx_code 281 15 = some (15, .ireturn, 16, 0, 0, 0) := by decide +kernel
theorem s281_15 {L : Nat} {xs : Nat → Int32} {d x : Nat} {M : qxM} {ls : qxL} {z : Int32} : Rs L xs (d) 281 15 ls [.int z] M x = some (.inl (some (.int z)), M, x) := Rs_ret c281_15 rfl
theorem c282_0 : qx_code 282 0 = some (0, .aload_n 0, 1, 0, 0, 0) := by decide +kernel
theorem s282_0 {L : Nat} {xs : Nat → Int32} {d x : Nat} {M : qxM} {st : List Value} {z : Nat} : Rs L xs (d) 282 0 [some (.ref z)] st M x = Rs L xs (d) 282 1 [some (.ref z)] (.ref z :: st) M x := Rs_next c282_0 rfl
theorem c282_1 : qx_code 282 1 = some (1, .invokevirtual 306, 4, 263, 1, 1882) := by decide +kernel
theorem s282_1 {L : Nat} {xs : Nat → Int32} {d x : Nat} {M : qxM} {st : List Value} {ls : qxL} {t : Nat} (hk : qx_kd t = 18) (hs : st.length ≤ 4) : Rs L xs (d + 1) 282 1 ls (.ref t :: st) M x = (Rs L xs d 263 0 [some (.ref t)] [] M 0).bind (qx_kn L xs (d + 1) 282 1 4 263 ls st x) := by
  have h1 : qx_act L xs (qx_rt 282) (1, .invokevirtual 306, 4, 263, 1, 1882) ls (.ref t :: st) M = if 1 ≤ (.ref t :: st).length ∧ st.length ≤ 4 then some (.inr (.inr (.inr (263, [.ref t], st)))) else none := rfl
  rw [if_pos ⟨by simp [List.length_cons]; try omega, hs⟩] at h1
  have h2 := qx_kd_obj (k := 8) (by decide) hk
  exact Rs_call c282_1 h1 (by rw [show qx_args 263 [.ref t] = decide (qx_sh t = some (.inl 8)) from rfl]; exact decide_eq_true h2)
theorem c282_4 : qx_code 282 4 = some (4, .ifCond .eq 14, 7, 18, 0, 0) := by decide +kernel
theorem s282_4 {L : Nat} {xs : Nat → Int32} {d x : Nat} {M : qxM} {st : List Value} {ls : qxL} {z : Int32} : Rs L xs (d) 282 4 ls (.int z :: st) M x = if z = 0 then Rs L xs (d) 282 18 ls st M x else Rs L xs (d) 282 7 ls st M x := Rs_ite c282_4 rfl
theorem c282_7 : qx_code 282 7 = some (7, .aload_n 0, 8, 0, 0, 0) := by decide +kernel
theorem s282_7 {L : Nat} {xs : Nat → Int32} {d x : Nat} {M : qxM} {st : List Value} {z : Nat} : Rs L xs (d) 282 7 [some (.ref z)] st M x = Rs L xs (d) 282 8 [some (.ref z)] (.ref z :: st) M x := Rs_next c282_7 rfl
theorem c282_8 : qx_code 282 8 = some (8, .aload_n 0, 9, 0, 0, 0) := by decide +kernel
theorem s282_8 {L : Nat} {xs : Nat → Int32} {d x : Nat} {M : qxM} {st : List Value} {z : Nat} : Rs L xs (d) 282 8 [some (.ref z)] st M x = Rs L xs (d) 282 9 [some (.ref z)] (.ref z :: st) M x := Rs_next c282_8 rfl
theorem c282_9 : qx_code 282 9 = some (9, .invokevirtual 330, 12, 273, 1, 1946) := by decide +kernel
theorem s282_9 {L : Nat} {xs : Nat → Int32} {d x : Nat} {M : qxM} {st : List Value} {ls : qxL} {t : Nat} (hk : qx_kd t = 18) (hs : st.length ≤ 4) : Rs L xs (d + 1) 282 9 ls (.ref t :: st) M x = (Rs L xs d 273 0 [some (.ref t), none, none, none] [] M 0).bind (qx_kn L xs (d + 1) 282 9 12 273 ls st x) := by
  have h1 : qx_act L xs (qx_rt 282) (9, .invokevirtual 330, 12, 273, 1, 1946) ls (.ref t :: st) M = if 1 ≤ (.ref t :: st).length ∧ st.length ≤ 4 then some (.inr (.inr (.inr (273, [.ref t], st)))) else none := rfl
  rw [if_pos ⟨by simp [List.length_cons]; try omega, hs⟩] at h1
  have h2 := qx_kd_obj (k := 8) (by decide) hk
  exact Rs_call c282_9 h1 (by rw [show qx_args 273 [.ref t] = decide (qx_sh t = some (.inl 8)) from rfl]; exact decide_eq_true h2)
theorem c282_12 : qx_code 282 12 = some (12, .invokevirtual 333, 15, 274, 2, 1958) := by decide +kernel
theorem s282_12 {L : Nat} {xs : Nat → Int32} {d x : Nat} {M : qxM} {st : List Value} {ls : qxL} {t : Nat} {z0 : Int32} (hk : qx_kd t = 18) (hs : st.length ≤ 4) : Rs L xs (d + 1) 282 12 ls (.int z0 :: .ref t :: st) M x = (Rs L xs d 274 0 [some (.ref t), some (.int z0), none, none] [] M 0).bind (qx_kn L xs (d + 1) 282 12 15 274 ls st x) := by
  have h1 : qx_act L xs (qx_rt 282) (12, .invokevirtual 333, 15, 274, 2, 1958) ls (.int z0 :: .ref t :: st) M = if 2 ≤ (.int z0 :: .ref t :: st).length ∧ st.length ≤ 4 then some (.inr (.inr (.inr (274, [.ref t, .int z0], st)))) else none := rfl
  rw [if_pos ⟨by simp [List.length_cons]; try omega, hs⟩] at h1
  have h2 := qx_kd_obj (k := 8) (by decide) hk
  exact Rs_call c282_12 h1 (by rw [show qx_args 274 [.ref t, .int z0] = decide (qx_sh t = some (.inl 8)) from rfl]; exact decide_eq_true h2)
theorem c282_15 : qx_code 282 15 = some (15, .goto 4, 18, 19, 0, 0) := by decide +kernel
theorem s282_15 {L : Nat} {xs : Nat → Int32} {d x : Nat} {M : qxM} {st : List Value} {ls : qxL} : Rs L xs (d) 282 15 ls st M x = Rs L xs (d) 282 19 ls st M x := Rs_next c282_15 rfl
theorem c282_18 : qx_code 282 18 = some (18, .iconst 0, 19, 0, 0, 0) := by decide +kernel
theorem s282_18 {L : Nat} {xs : Nat → Int32} {d x : Nat} {M : qxM} {st : List Value} {ls : qxL} : Rs L xs (d) 282 18 ls st M x = Rs L xs (d) 282 19 ls (.int (nI 0) :: st) M x := Rs_next c282_18 rfl
theorem c282_19 : qx_code 282 19 = some (19, .ireturn, 20, 0, 0, 0) := by decide +kernel
theorem s282_19 {L : Nat} {xs : Nat → Int32} {d x : Nat} {M : qxM} {ls : qxL} {z : Int32} : Rs L xs (d) 282 19 ls [.int z] M x = some (.inl (some (.int z)), M, x) := Rs_ret c282_19 rfl
theorem c283_0 : qx_code 283 0 = some (0, .aload_n 0, 1, 0, 0, 0) := by decide +kernel
theorem s283_0 {L : Nat} {xs : Nat → Int32} {d x : Nat} {M : qxM} {st : List Value} {a1 : Option Value} {z : Nat} : Rs L xs (d) 283 0 [some (.ref z), a1] st M x = Rs L xs (d) 283 1 [some (.ref z), a1] (.ref z :: st) M x := Rs_next c283_0 rfl
theorem c283_1 : qx_code 283 1 = some (1, .invokevirtual 306, 4, 263, 1, 1882) := by decide +kernel
theorem s283_1 {L : Nat} {xs : Nat → Int32} {d x : Nat} {M : qxM} {st : List Value} {ls : qxL} {t : Nat} (hk : qx_kd t = 18) (hs : st.length ≤ 4) : Rs L xs (d + 1) 283 1 ls (.ref t :: st) M x = (Rs L xs d 263 0 [some (.ref t)] [] M 0).bind (qx_kn L xs (d + 1) 283 1 4 263 ls st x) := by
  have h1 : qx_act L xs (qx_rt 283) (1, .invokevirtual 306, 4, 263, 1, 1882) ls (.ref t :: st) M = if 1 ≤ (.ref t :: st).length ∧ st.length ≤ 4 then some (.inr (.inr (.inr (263, [.ref t], st)))) else none := rfl
  rw [if_pos ⟨by simp [List.length_cons]; try omega, hs⟩] at h1
  have h2 := qx_kd_obj (k := 8) (by decide) hk
  exact Rs_call c283_1 h1 (by rw [show qx_args 263 [.ref t] = decide (qx_sh t = some (.inl 8)) from rfl]; exact decide_eq_true h2)
theorem c283_4 : qx_code 283 4 = some (4, .ifCond .ne 5, 7, 9, 0, 0) := by decide +kernel
theorem s283_4 {L : Nat} {xs : Nat → Int32} {d x : Nat} {M : qxM} {st : List Value} {ls : qxL} {z : Int32} : Rs L xs (d) 283 4 ls (.int z :: st) M x = if z = 0 then Rs L xs (d) 283 7 ls st M x else Rs L xs (d) 283 9 ls st M x := Rs_ite c283_4 rfl
theorem c283_7 : qx_code 283 7 = some (7, .iconst 0, 8, 0, 0, 0) := by decide +kernel
theorem s283_7 {L : Nat} {xs : Nat → Int32} {d x : Nat} {M : qxM} {st : List Value} {ls : qxL} : Rs L xs (d) 283 7 ls st M x = Rs L xs (d) 283 8 ls (.int (nI 0) :: st) M x := Rs_next c283_7 rfl
theorem c283_8 : qx_code 283 8 = some (8, .ireturn, 9, 0, 0, 0) := by decide +kernel
theorem s283_8 {L : Nat} {xs : Nat → Int32} {d x : Nat} {M : qxM} {ls : qxL} {z : Int32} : Rs L xs (d) 283 8 ls [.int z] M x = some (.inl (some (.int z)), M, x) := Rs_ret c283_8 rfl
theorem c283_9 : qx_code 283 9 = some (9, .aload_n 0, 10, 0, 0, 0) := by decide +kernel
theorem s283_9 {L : Nat} {xs : Nat → Int32} {d x : Nat} {M : qxM} {st : List Value} {a1 : Option Value} {z : Nat} : Rs L xs (d) 283 9 [some (.ref z), a1] st M x = Rs L xs (d) 283 10 [some (.ref z), a1] (.ref z :: st) M x := Rs_next c283_9 rfl
theorem c283_10 : qx_code 283 10 = some (10, .invokevirtual 330, 13, 273, 1, 1946) := by decide +kernel
theorem s283_10 {L : Nat} {xs : Nat → Int32} {d x : Nat} {M : qxM} {st : List Value} {ls : qxL} {t : Nat} (hk : qx_kd t = 18) (hs : st.length ≤ 4) : Rs L xs (d + 1) 283 10 ls (.ref t :: st) M x = (Rs L xs d 273 0 [some (.ref t), none, none, none] [] M 0).bind (qx_kn L xs (d + 1) 283 10 13 273 ls st x) := by
  have h1 : qx_act L xs (qx_rt 283) (10, .invokevirtual 330, 13, 273, 1, 1946) ls (.ref t :: st) M = if 1 ≤ (.ref t :: st).length ∧ st.length ≤ 4 then some (.inr (.inr (.inr (273, [.ref t], st)))) else none := rfl
  rw [if_pos ⟨by simp [List.length_cons]; try omega, hs⟩] at h1
  have h2 := qx_kd_obj (k := 8) (by decide) hk
  exact Rs_call c283_10 h1 (by rw [show qx_args 273 [.ref t] = decide (qx_sh t = some (.inl 8)) from rfl]; exact decide_eq_true h2)
theorem c283_13 : qx_code 283 13 = some (13, .istore_n 1, 14, 0, 0, 0) := by decide +kernel
theorem s283_13i {L : Nat} {xs : Nat → Int32} {d x : Nat} {M : qxM} {st : List Value} {a1 : Option Value} {z : Int32} {y : Int32} : Rs L xs (d) 283 13 [some (.int y), a1] (.int z :: st) M x = Rs L xs (d) 283 14 [some (.int y), some (.int z)] st M x := Rs_next c283_13 rfl
theorem s283_13r {L : Nat} {xs : Nat → Int32} {d x : Nat} {M : qxM} {st : List Value} {a1 : Option Value} {z : Int32} {y : Nat} : Rs L xs (d) 283 13 [some (.ref y), a1] (.int z :: st) M x = Rs L xs (d) 283 14 [some (.ref y), some (.int z)] st M x := Rs_next c283_13 rfl
theorem s283_13n {L : Nat} {xs : Nat → Int32} {d x : Nat} {M : qxM} {st : List Value} {a1 : Option Value} {z : Int32} : Rs L xs (d) 283 13 [none, a1] (.int z :: st) M x = Rs L xs (d) 283 14 [none, some (.int z)] st M x := Rs_next c283_13 rfl
theorem c283_14 : qx_code 283 14 = some (14, .aload_n 0, 15, 0, 0, 0) := by decide +kernel
theorem s283_14 {L : Nat} {xs : Nat → Int32} {d x : Nat} {M : qxM} {st : List Value} {a1 : Option Value} {z : Nat} : Rs L xs (d) 283 14 [some (.ref z), a1] st M x = Rs L xs (d) 283 15 [some (.ref z), a1] (.ref z :: st) M x := Rs_next c283_14 rfl
theorem c283_15 : qx_code 283 15 = some (15, .invokevirtual 312, 18, 212, 1, 1926) := by decide +kernel
theorem s283_15 {L : Nat} {xs : Nat → Int32} {d x : Nat} {M : qxM} {st : List Value} {ls : qxL} {t : Nat} (hk : qx_kd t = 18) (hs : st.length ≤ 4) : Rs L xs (d + 1) 283 15 ls (.ref t :: st) M x = (Rs L xs d 212 0 [some (.ref t)] [] M 0).bind (qx_kn L xs (d + 1) 283 15 18 212 ls st x) := by
  have h1 : qx_act L xs (qx_rt 283) (15, .invokevirtual 312, 18, 212, 1, 1926) ls (.ref t :: st) M = if 1 ≤ (.ref t :: st).length ∧ st.length ≤ 4 then some (.inr (.inr (.inr (212, [.ref t], st)))) else none := rfl
  rw [if_pos ⟨by simp [List.length_cons]; try omega, hs⟩] at h1
  have h2 := qx_kd_obj (k := 8) (by decide) hk
  exact Rs_call c283_15 h1 (by rw [show qx_args 212 [.ref t] = decide (qx_sh t = some (.inl 8)) from rfl]; exact decide_eq_true h2)
theorem c283_18 : qx_code 283 18 = some (18, .iload_n 1, 19, 0, 0, 0) := by decide +kernel
theorem s283_18 {L : Nat} {xs : Nat → Int32} {d x : Nat} {M : qxM} {st : List Value} {a0 : Option Value} {z : Int32} : Rs L xs (d) 283 18 [a0, some (.int z)] st M x = Rs L xs (d) 283 19 [a0, some (.int z)] (.int z :: st) M x := Rs_next c283_18 rfl
theorem c283_19 : qx_code 283 19 = some (19, .iconst (-1), 20, 0, 0, 0) := by decide +kernel
theorem s283_19 {L : Nat} {xs : Nat → Int32} {d x : Nat} {M : qxM} {st : List Value} {ls : qxL} : Rs L xs (d) 283 19 ls st M x = Rs L xs (d) 283 20 ls (.int (-1) :: st) M x := Rs_next c283_19 rfl
theorem c283_20 : qx_code 283 20 = some (20, .ixor, 21, 0, 0, 0) := by decide +kernel
theorem s283_20 {L : Nat} {xs : Nat → Int32} {d x : Nat} {M : qxM} {st : List Value} {ls : qxL} {z y : Int32} : Rs L xs (d) 283 20 ls (.int y :: .int z :: st) M x = Rs L xs (d) 283 21 ls (.int (z ^^^ y) :: st) M x := Rs_next c283_20 rfl
theorem c283_21 : qx_code 283 21 = some (21, .iand, 22, 0, 0, 0) := by decide +kernel
theorem s283_21 {L : Nat} {xs : Nat → Int32} {d x : Nat} {M : qxM} {st : List Value} {ls : qxL} {z y : Int32} : Rs L xs (d) 283 21 ls (.int y :: .int z :: st) M x = Rs L xs (d) 283 22 ls (.int (z &&& y) :: st) M x := Rs_next c283_21 rfl
theorem c283_22 : qx_code 283 22 = some (22, .aload_n 0, 23, 0, 0, 0) := by decide +kernel
theorem s283_22 {L : Nat} {xs : Nat → Int32} {d x : Nat} {M : qxM} {st : List Value} {a1 : Option Value} {z : Nat} : Rs L xs (d) 283 22 [some (.ref z), a1] st M x = Rs L xs (d) 283 23 [some (.ref z), a1] (.ref z :: st) M x := Rs_next c283_22 rfl
theorem c283_23 : qx_code 283 23 = some (23, .iload_n 1, 24, 0, 0, 0) := by decide +kernel
theorem s283_23 {L : Nat} {xs : Nat → Int32} {d x : Nat} {M : qxM} {st : List Value} {a0 : Option Value} {z : Int32} : Rs L xs (d) 283 23 [a0, some (.int z)] st M x = Rs L xs (d) 283 24 [a0, some (.int z)] (.int z :: st) M x := Rs_next c283_23 rfl
theorem c283_24 : qx_code 283 24 = some (24, .invokevirtual 333, 27, 274, 2, 1958) := by decide +kernel
theorem s283_24 {L : Nat} {xs : Nat → Int32} {d x : Nat} {M : qxM} {st : List Value} {ls : qxL} {t : Nat} {z0 : Int32} (hk : qx_kd t = 18) (hs : st.length ≤ 4) : Rs L xs (d + 1) 283 24 ls (.int z0 :: .ref t :: st) M x = (Rs L xs d 274 0 [some (.ref t), some (.int z0), none, none] [] M 0).bind (qx_kn L xs (d + 1) 283 24 27 274 ls st x) := by
  have h1 : qx_act L xs (qx_rt 283) (24, .invokevirtual 333, 27, 274, 2, 1958) ls (.int z0 :: .ref t :: st) M = if 2 ≤ (.int z0 :: .ref t :: st).length ∧ st.length ≤ 4 then some (.inr (.inr (.inr (274, [.ref t, .int z0], st)))) else none := rfl
  rw [if_pos ⟨by simp [List.length_cons]; try omega, hs⟩] at h1
  have h2 := qx_kd_obj (k := 8) (by decide) hk
  exact Rs_call c283_24 h1 (by rw [show qx_args 274 [.ref t, .int z0] = decide (qx_sh t = some (.inl 8)) from rfl]; exact decide_eq_true h2)
theorem c283_27 : qx_code 283 27 = some (27, .iconst (-1), 28, 0, 0, 0) := by decide +kernel
theorem s283_27 {L : Nat} {xs : Nat → Int32} {d x : Nat} {M : qxM} {st : List Value} {ls : qxL} : Rs L xs (d) 283 27 ls st M x = Rs L xs (d) 283 28 ls (.int (-1) :: st) M x := Rs_next c283_27 rfl
theorem c283_28 : qx_code 283 28 = some (28, .ixor, 29, 0, 0, 0) := by decide +kernel
theorem s283_28 {L : Nat} {xs : Nat → Int32} {d x : Nat} {M : qxM} {st : List Value} {ls : qxL} {z y : Int32} : Rs L xs (d) 283 28 ls (.int y :: .int z :: st) M x = Rs L xs (d) 283 29 ls (.int (z ^^^ y) :: st) M x := Rs_next c283_28 rfl
theorem c283_29 : qx_code 283 29 = some (29, .iand, 30, 0, 0, 0) := by decide +kernel
theorem s283_29 {L : Nat} {xs : Nat → Int32} {d x : Nat} {M : qxM} {st : List Value} {ls : qxL} {z y : Int32} : Rs L xs (d) 283 29 ls (.int y :: .int z :: st) M x = Rs L xs (d) 283 30 ls (.int (z &&& y) :: st) M x := Rs_next c283_29 rfl
theorem c283_30 : qx_code 283 30 = some (30, .ireturn, 31, 0, 0, 0) := by decide +kernel
theorem s283_30 {L : Nat} {xs : Nat → Int32} {d x : Nat} {M : qxM} {ls : qxL} {z : Int32} : Rs L xs (d) 283 30 ls [.int z] M x = some (.inl (some (.int z)), M, x) := Rs_ret c283_30 rfl
theorem c284_0 : qx_code 284 0 = some (0, .aload_n 0, 1, 0, 0, 0) := by decide +kernel
theorem s284_0 {L : Nat} {xs : Nat → Int32} {d x : Nat} {M : qxM} {st : List Value} {z : Nat} : Rs L xs (d) 284 0 [some (.ref z)] st M x = Rs L xs (d) 284 1 [some (.ref z)] (.ref z :: st) M x := Rs_next c284_0 rfl
theorem c284_1 : qx_code 284 1 = some (1, .invokevirtual 306, 4, 263, 1, 1882) := by decide +kernel
theorem s284_1 {L : Nat} {xs : Nat → Int32} {d x : Nat} {M : qxM} {st : List Value} {ls : qxL} {t : Nat} (hk : qx_kd t = 18) (hs : st.length ≤ 4) : Rs L xs (d + 1) 284 1 ls (.ref t :: st) M x = (Rs L xs d 263 0 [some (.ref t)] [] M 0).bind (qx_kn L xs (d + 1) 284 1 4 263 ls st x) := by
  have h1 : qx_act L xs (qx_rt 284) (1, .invokevirtual 306, 4, 263, 1, 1882) ls (.ref t :: st) M = if 1 ≤ (.ref t :: st).length ∧ st.length ≤ 4 then some (.inr (.inr (.inr (263, [.ref t], st)))) else none := rfl
  rw [if_pos ⟨by simp [List.length_cons]; try omega, hs⟩] at h1
  have h2 := qx_kd_obj (k := 8) (by decide) hk
  exact Rs_call c284_1 h1 (by rw [show qx_args 263 [.ref t] = decide (qx_sh t = some (.inl 8)) from rfl]; exact decide_eq_true h2)
theorem c284_4 : qx_code 284 4 = some (4, .ifCond .eq 14, 7, 18, 0, 0) := by decide +kernel
theorem s284_4 {L : Nat} {xs : Nat → Int32} {d x : Nat} {M : qxM} {st : List Value} {ls : qxL} {z : Int32} : Rs L xs (d) 284 4 ls (.int z :: st) M x = if z = 0 then Rs L xs (d) 284 18 ls st M x else Rs L xs (d) 284 7 ls st M x := Rs_ite c284_4 rfl
theorem c284_7 : qx_code 284 7 = some (7, .aload_n 0, 8, 0, 0, 0) := by decide +kernel
theorem s284_7 {L : Nat} {xs : Nat → Int32} {d x : Nat} {M : qxM} {st : List Value} {z : Nat} : Rs L xs (d) 284 7 [some (.ref z)] st M x = Rs L xs (d) 284 8 [some (.ref z)] (.ref z :: st) M x := Rs_next c284_7 rfl
theorem c284_8 : qx_code 284 8 = some (8, .aload_n 0, 9, 0, 0, 0) := by decide +kernel
theorem s284_8 {L : Nat} {xs : Nat → Int32} {d x : Nat} {M : qxM} {st : List Value} {z : Nat} : Rs L xs (d) 284 8 [some (.ref z)] st M x = Rs L xs (d) 284 9 [some (.ref z)] (.ref z :: st) M x := Rs_next c284_8 rfl
theorem c284_9 : qx_code 284 9 = some (9, .invokevirtual 330, 12, 273, 1, 1946) := by decide +kernel
theorem s284_9 {L : Nat} {xs : Nat → Int32} {d x : Nat} {M : qxM} {st : List Value} {ls : qxL} {t : Nat} (hk : qx_kd t = 18) (hs : st.length ≤ 4) : Rs L xs (d + 1) 284 9 ls (.ref t :: st) M x = (Rs L xs d 273 0 [some (.ref t), none, none, none] [] M 0).bind (qx_kn L xs (d + 1) 284 9 12 273 ls st x) := by
  have h1 : qx_act L xs (qx_rt 284) (9, .invokevirtual 330, 12, 273, 1, 1946) ls (.ref t :: st) M = if 1 ≤ (.ref t :: st).length ∧ st.length ≤ 4 then some (.inr (.inr (.inr (273, [.ref t], st)))) else none := rfl
  rw [if_pos ⟨by simp [List.length_cons]; try omega, hs⟩] at h1
  have h2 := qx_kd_obj (k := 8) (by decide) hk
  exact Rs_call c284_9 h1 (by rw [show qx_args 273 [.ref t] = decide (qx_sh t = some (.inl 8)) from rfl]; exact decide_eq_true h2)
theorem c284_12 : qx_code 284 12 = some (12, .invokevirtual 336, 15, 277, 2, 1970) := by decide +kernel
theorem s284_12 {L : Nat} {xs : Nat → Int32} {d x : Nat} {M : qxM} {st : List Value} {ls : qxL} {t : Nat} {z0 : Int32} (hk : qx_kd t = 18) (hs : st.length ≤ 4) : Rs L xs (d + 1) 284 12 ls (.int z0 :: .ref t :: st) M x = (Rs L xs d 277 0 [some (.ref t), some (.int z0), none] [] M 0).bind (qx_kn L xs (d + 1) 284 12 15 277 ls st x) := by
  have h1 : qx_act L xs (qx_rt 284) (12, .invokevirtual 336, 15, 277, 2, 1970) ls (.int z0 :: .ref t :: st) M = if 2 ≤ (.int z0 :: .ref t :: st).length ∧ st.length ≤ 4 then some (.inr (.inr (.inr (277, [.ref t, .int z0], st)))) else none := rfl
  rw [if_pos ⟨by simp [List.length_cons]; try omega, hs⟩] at h1
  have h2 := qx_kd_obj (k := 8) (by decide) hk
  exact Rs_call c284_12 h1 (by rw [show qx_args 277 [.ref t, .int z0] = decide (qx_sh t = some (.inl 8)) from rfl]; exact decide_eq_true h2)
theorem c284_15 : qx_code 284 15 = some (15, .goto 4, 18, 19, 0, 0) := by decide +kernel
theorem s284_15 {L : Nat} {xs : Nat → Int32} {d x : Nat} {M : qxM} {st : List Value} {ls : qxL} : Rs L xs (d) 284 15 ls st M x = Rs L xs (d) 284 19 ls st M x := Rs_next c284_15 rfl
theorem c284_18 : qx_code 284 18 = some (18, .iconst 0, 19, 0, 0, 0) := by decide +kernel
theorem s284_18 {L : Nat} {xs : Nat → Int32} {d x : Nat} {M : qxM} {st : List Value} {ls : qxL} : Rs L xs (d) 284 18 ls st M x = Rs L xs (d) 284 19 ls (.int (nI 0) :: st) M x := Rs_next c284_18 rfl
theorem c284_19 : qx_code 284 19 = some (19, .ireturn, 20, 0, 0, 0) := by decide +kernel
theorem s284_19 {L : Nat} {xs : Nat → Int32} {d x : Nat} {M : qxM} {ls : qxL} {z : Int32} : Rs L xs (d) 284 19 ls [.int z] M x = some (.inl (some (.int z)), M, x) := Rs_ret c284_19 rfl
theorem c285_0 : qx_code 285 0 = some (0, .aload_n 0, 1, 0, 0, 0) := by decide +kernel
theorem s285_0 {L : Nat} {xs : Nat → Int32} {d x : Nat} {M : qxM} {st : List Value} {a1 : Option Value} {z : Nat} : Rs L xs (d) 285 0 [some (.ref z), a1] st M x = Rs L xs (d) 285 1 [some (.ref z), a1] (.ref z :: st) M x := Rs_next c285_0 rfl
theorem c285_1 : qx_code 285 1 = some (1, .invokevirtual 306, 4, 263, 1, 1882) := by decide +kernel
theorem s285_1 {L : Nat} {xs : Nat → Int32} {d x : Nat} {M : qxM} {st : List Value} {ls : qxL} {t : Nat} (hk : qx_kd t = 18) (hs : st.length ≤ 4) : Rs L xs (d + 1) 285 1 ls (.ref t :: st) M x = (Rs L xs d 263 0 [some (.ref t)] [] M 0).bind (qx_kn L xs (d + 1) 285 1 4 263 ls st x) := by
  have h1 : qx_act L xs (qx_rt 285) (1, .invokevirtual 306, 4, 263, 1, 1882) ls (.ref t :: st) M = if 1 ≤ (.ref t :: st).length ∧ st.length ≤ 4 then some (.inr (.inr (.inr (263, [.ref t], st)))) else none := rfl
  rw [if_pos ⟨by simp [List.length_cons]; try omega, hs⟩] at h1
  have h2 := qx_kd_obj (k := 8) (by decide) hk
  exact Rs_call c285_1 h1 (by rw [show qx_args 263 [.ref t] = decide (qx_sh t = some (.inl 8)) from rfl]; exact decide_eq_true h2)
theorem c285_4 : qx_code 285 4 = some (4, .ifCond .ne 5, 7, 9, 0, 0) := by decide +kernel
theorem s285_4 {L : Nat} {xs : Nat → Int32} {d x : Nat} {M : qxM} {st : List Value} {ls : qxL} {z : Int32} : Rs L xs (d) 285 4 ls (.int z :: st) M x = if z = 0 then Rs L xs (d) 285 7 ls st M x else Rs L xs (d) 285 9 ls st M x := Rs_ite c285_4 rfl
theorem c285_7 : qx_code 285 7 = some (7, .iconst 0, 8, 0, 0, 0) := by decide +kernel
theorem s285_7 {L : Nat} {xs : Nat → Int32} {d x : Nat} {M : qxM} {st : List Value} {ls : qxL} : Rs L xs (d) 285 7 ls st M x = Rs L xs (d) 285 8 ls (.int (nI 0) :: st) M x := Rs_next c285_7 rfl
theorem c285_8 : qx_code 285 8 = some (8, .ireturn, 9, 0, 0, 0) := by decide +kernel
theorem s285_8 {L : Nat} {xs : Nat → Int32} {d x : Nat} {M : qxM} {ls : qxL} {z : Int32} : Rs L xs (d) 285 8 ls [.int z] M x = some (.inl (some (.int z)), M, x) := Rs_ret c285_8 rfl
theorem c285_9 : qx_code 285 9 = some (9, .iload_n 1, 10, 0, 0, 0) := by decide +kernel
theorem s285_9 {L : Nat} {xs : Nat → Int32} {d x : Nat} {M : qxM} {st : List Value} {a0 : Option Value} {z : Int32} : Rs L xs (d) 285 9 [a0, some (.int z)] st M x = Rs L xs (d) 285 10 [a0, some (.int z)] (.int z :: st) M x := Rs_next c285_9 rfl
theorem c285_10 : qx_code 285 10 = some (10, .ifCond .ge 7, 13, 17, 0, 0) := by decide +kernel
theorem s285_10 {L : Nat} {xs : Nat → Int32} {d x : Nat} {M : qxM} {st : List Value} {ls : qxL} {z : Int32} : Rs L xs (d) 285 10 ls (.int z :: st) M x = if 0 ≤ z then Rs L xs (d) 285 17 ls st M x else Rs L xs (d) 285 13 ls st M x := Rs_ite c285_10 rfl
theorem c285_13 : qx_code 285 13 = some (13, .iconst (-1), 14, 0, 0, 0) := by decide +kernel
theorem s285_13 {L : Nat} {xs : Nat → Int32} {d x : Nat} {M : qxM} {st : List Value} {ls : qxL} : Rs L xs (d) 285 13 ls st M x = Rs L xs (d) 285 14 ls (.int (-1) :: st) M x := Rs_next c285_13 rfl
theorem c285_14 : qx_code 285 14 = some (14, .goto 12, 17, 26, 0, 0) := by decide +kernel
theorem s285_14 {L : Nat} {xs : Nat → Int32} {d x : Nat} {M : qxM} {st : List Value} {ls : qxL} : Rs L xs (d) 285 14 ls st M x = Rs L xs (d) 285 26 ls st M x := Rs_next c285_14 rfl
theorem c285_17 : qx_code 285 17 = some (17, .aload_n 0, 18, 0, 0, 0) := by decide +kernel
theorem s285_17 {L : Nat} {xs : Nat → Int32} {d x : Nat} {M : qxM} {st : List Value} {a1 : Option Value} {z : Nat} : Rs L xs (d) 285 17 [some (.ref z), a1] st M x = Rs L xs (d) 285 18 [some (.ref z), a1] (.ref z :: st) M x := Rs_next c285_17 rfl
theorem c285_18 : qx_code 285 18 = some (18, .iload_n 1, 19, 0, 0, 0) := by decide +kernel
theorem s285_18 {L : Nat} {xs : Nat → Int32} {d x : Nat} {M : qxM} {st : List Value} {a0 : Option Value} {z : Int32} : Rs L xs (d) 285 18 [a0, some (.int z)] st M x = Rs L xs (d) 285 19 [a0, some (.int z)] (.int z :: st) M x := Rs_next c285_18 rfl
theorem c285_19 : qx_code 285 19 = some (19, .aload_n 0, 20, 0, 0, 0) := by decide +kernel
theorem s285_19 {L : Nat} {xs : Nat → Int32} {d x : Nat} {M : qxM} {st : List Value} {a1 : Option Value} {z : Nat} : Rs L xs (d) 285 19 [some (.ref z), a1] st M x = Rs L xs (d) 285 20 [some (.ref z), a1] (.ref z :: st) M x := Rs_next c285_19 rfl
theorem c285_20 : qx_code 285 20 = some (20, .invokevirtual 330, 23, 273, 1, 1946) := by decide +kernel
theorem s285_20 {L : Nat} {xs : Nat → Int32} {d x : Nat} {M : qxM} {st : List Value} {ls : qxL} {t : Nat} (hk : qx_kd t = 18) (hs : st.length ≤ 4) : Rs L xs (d + 1) 285 20 ls (.ref t :: st) M x = (Rs L xs d 273 0 [some (.ref t), none, none, none] [] M 0).bind (qx_kn L xs (d + 1) 285 20 23 273 ls st x) := by
  have h1 : qx_act L xs (qx_rt 285) (20, .invokevirtual 330, 23, 273, 1, 1946) ls (.ref t :: st) M = if 1 ≤ (.ref t :: st).length ∧ st.length ≤ 4 then some (.inr (.inr (.inr (273, [.ref t], st)))) else none := rfl
  rw [if_pos ⟨by simp [List.length_cons]; try omega, hs⟩] at h1
  have h2 := qx_kd_obj (k := 8) (by decide) hk
  exact Rs_call c285_20 h1 (by rw [show qx_args 273 [.ref t] = decide (qx_sh t = some (.inl 8)) from rfl]; exact decide_eq_true h2)
theorem c285_23 : qx_code 285 23 = some (23, .invokevirtual 327, 26, 276, 3, 1974) := by decide +kernel
theorem s285_23 {L : Nat} {xs : Nat → Int32} {d x : Nat} {M : qxM} {st : List Value} {ls : qxL} {t : Nat} {z0 : Int32} {z1 : Int32} (hk : qx_kd t = 18) (hs : st.length ≤ 4) : Rs L xs (d + 1) 285 23 ls (.int z1 :: .int z0 :: .ref t :: st) M x = (Rs L xs d 276 0 [some (.ref t), some (.int z0), some (.int z1), none, none, none] [] M 0).bind (qx_kn L xs (d + 1) 285 23 26 276 ls st x) := by
  have h1 : qx_act L xs (qx_rt 285) (23, .invokevirtual 327, 26, 276, 3, 1974) ls (.int z1 :: .int z0 :: .ref t :: st) M = if 3 ≤ (.int z1 :: .int z0 :: .ref t :: st).length ∧ st.length ≤ 4 then some (.inr (.inr (.inr (276, [.ref t, .int z0, .int z1], st)))) else none := rfl
  rw [if_pos ⟨by simp [List.length_cons]; try omega, hs⟩] at h1
  have h2 := qx_kd_obj (k := 8) (by decide) hk
  exact Rs_call c285_23 h1 (by rw [show qx_args 276 [.ref t, .int z0, .int z1] = decide (qx_sh t = some (.inl 8)) from rfl]; exact decide_eq_true h2)
theorem c285_26 : qx_code 285 26 = some (26, .ireturn, 27, 0, 0, 0) := by decide +kernel
theorem s285_26 {L : Nat} {xs : Nat → Int32} {d x : Nat} {M : qxM} {ls : qxL} {z : Int32} : Rs L xs (d) 285 26 ls [.int z] M x = some (.inl (some (.int z)), M, x) := Rs_ret c285_26 rfl
theorem c286_0 : qx_code 286 0 = some (0, .aload_n 0, 1, 0, 0, 0) := by decide +kernel
theorem s286_0 {L : Nat} {xs : Nat → Int32} {d x : Nat} {M : qxM} {st : List Value} {a1 : Option Value} {z : Nat} : Rs L xs (d) 286 0 [some (.ref z), a1] st M x = Rs L xs (d) 286 1 [some (.ref z), a1] (.ref z :: st) M x := Rs_next c286_0 rfl
theorem c286_1 : qx_code 286 1 = some (1, .invokevirtual 306, 4, 263, 1, 1882) := by decide +kernel
theorem s286_1 {L : Nat} {xs : Nat → Int32} {d x : Nat} {M : qxM} {st : List Value} {ls : qxL} {t : Nat} (hk : qx_kd t = 18) (hs : st.length ≤ 4) : Rs L xs (d + 1) 286 1 ls (.ref t :: st) M x = (Rs L xs d 263 0 [some (.ref t)] [] M 0).bind (qx_kn L xs (d + 1) 286 1 4 263 ls st x) := by
  have h1 : qx_act L xs (qx_rt 286) (1, .invokevirtual 306, 4, 263, 1, 1882) ls (.ref t :: st) M = if 1 ≤ (.ref t :: st).length ∧ st.length ≤ 4 then some (.inr (.inr (.inr (263, [.ref t], st)))) else none := rfl
  rw [if_pos ⟨by simp [List.length_cons]; try omega, hs⟩] at h1
  have h2 := qx_kd_obj (k := 8) (by decide) hk
  exact Rs_call c286_1 h1 (by rw [show qx_args 263 [.ref t] = decide (qx_sh t = some (.inl 8)) from rfl]; exact decide_eq_true h2)
theorem c286_4 : qx_code 286 4 = some (4, .ifCond .ne 5, 7, 9, 0, 0) := by decide +kernel
theorem s286_4 {L : Nat} {xs : Nat → Int32} {d x : Nat} {M : qxM} {st : List Value} {ls : qxL} {z : Int32} : Rs L xs (d) 286 4 ls (.int z :: st) M x = if z = 0 then Rs L xs (d) 286 7 ls st M x else Rs L xs (d) 286 9 ls st M x := Rs_ite c286_4 rfl
theorem c286_7 : qx_code 286 7 = some (7, .iconst 0, 8, 0, 0, 0) := by decide +kernel
theorem s286_7 {L : Nat} {xs : Nat → Int32} {d x : Nat} {M : qxM} {st : List Value} {ls : qxL} : Rs L xs (d) 286 7 ls st M x = Rs L xs (d) 286 8 ls (.int (nI 0) :: st) M x := Rs_next c286_7 rfl
theorem c286_8 : qx_code 286 8 = some (8, .ireturn, 9, 0, 0, 0) := by decide +kernel
theorem s286_8 {L : Nat} {xs : Nat → Int32} {d x : Nat} {M : qxM} {ls : qxL} {z : Int32} : Rs L xs (d) 286 8 ls [.int z] M x = some (.inl (some (.int z)), M, x) := Rs_ret c286_8 rfl
theorem c286_9 : qx_code 286 9 = some (9, .aload_n 0, 10, 0, 0, 0) := by decide +kernel
theorem s286_9 {L : Nat} {xs : Nat → Int32} {d x : Nat} {M : qxM} {st : List Value} {a1 : Option Value} {z : Nat} : Rs L xs (d) 286 9 [some (.ref z), a1] st M x = Rs L xs (d) 286 10 [some (.ref z), a1] (.ref z :: st) M x := Rs_next c286_9 rfl
theorem c286_10 : qx_code 286 10 = some (10, .invokevirtual 330, 13, 273, 1, 1946) := by decide +kernel
theorem s286_10 {L : Nat} {xs : Nat → Int32} {d x : Nat} {M : qxM} {st : List Value} {ls : qxL} {t : Nat} (hk : qx_kd t = 18) (hs : st.length ≤ 4) : Rs L xs (d + 1) 286 10 ls (.ref t :: st) M x = (Rs L xs d 273 0 [some (.ref t), none, none, none] [] M 0).bind (qx_kn L xs (d + 1) 286 10 13 273 ls st x) := by
  have h1 : qx_act L xs (qx_rt 286) (10, .invokevirtual 330, 13, 273, 1, 1946) ls (.ref t :: st) M = if 1 ≤ (.ref t :: st).length ∧ st.length ≤ 4 then some (.inr (.inr (.inr (273, [.ref t], st)))) else none := rfl
  rw [if_pos ⟨by simp [List.length_cons]; try omega, hs⟩] at h1
  have h2 := qx_kd_obj (k := 8) (by decide) hk
  exact Rs_call c286_10 h1 (by rw [show qx_args 273 [.ref t] = decide (qx_sh t = some (.inl 8)) from rfl]; exact decide_eq_true h2)
theorem c286_13 : qx_code 286 13 = some (13, .istore_n 1, 14, 0, 0, 0) := by decide +kernel
theorem s286_13i {L : Nat} {xs : Nat → Int32} {d x : Nat} {M : qxM} {st : List Value} {a1 : Option Value} {z : Int32} {y : Int32} : Rs L xs (d) 286 13 [some (.int y), a1] (.int z :: st) M x = Rs L xs (d) 286 14 [some (.int y), some (.int z)] st M x := Rs_next c286_13 rfl
theorem s286_13r {L : Nat} {xs : Nat → Int32} {d x : Nat} {M : qxM} {st : List Value} {a1 : Option Value} {z : Int32} {y : Nat} : Rs L xs (d) 286 13 [some (.ref y), a1] (.int z :: st) M x = Rs L xs (d) 286 14 [some (.ref y), some (.int z)] st M x := Rs_next c286_13 rfl
theorem s286_13n {L : Nat} {xs : Nat → Int32} {d x : Nat} {M : qxM} {st : List Value} {a1 : Option Value} {z : Int32} : Rs L xs (d) 286 13 [none, a1] (.int z :: st) M x = Rs L xs (d) 286 14 [none, some (.int z)] st M x := Rs_next c286_13 rfl
theorem c286_14 : qx_code 286 14 = some (14, .aload_n 0, 15, 0, 0, 0) := by decide +kernel
theorem s286_14 {L : Nat} {xs : Nat → Int32} {d x : Nat} {M : qxM} {st : List Value} {a1 : Option Value} {z : Nat} : Rs L xs (d) 286 14 [some (.ref z), a1] st M x = Rs L xs (d) 286 15 [some (.ref z), a1] (.ref z :: st) M x := Rs_next c286_14 rfl
theorem c286_15 : qx_code 286 15 = some (15, .getfield 9, 18, 8, 1, 1546) := by decide +kernel
theorem s286_15 {L : Nat} {xs : Nat → Int32} {d x : Nat} {M : qxM} {st : List Value} {ls : qxL} {t : Nat} (hk : qx_kd t = 18) : Rs L xs (d) 286 15 ls (.ref t :: st) M x = Rs L xs (d) 286 18 ls (.ref (t + 1) :: st) M x := Rs_when (qx_kd_obj (k := 8) (by decide) hk) c286_15 rfl
theorem c286_18 : qx_code 286 18 = some (18, .iconst 0, 19, 0, 0, 0) := by decide +kernel
theorem s286_18 {L : Nat} {xs : Nat → Int32} {d x : Nat} {M : qxM} {st : List Value} {ls : qxL} : Rs L xs (d) 286 18 ls st M x = Rs L xs (d) 286 19 ls (.int (nI 0) :: st) M x := Rs_next c286_18 rfl
theorem c286_19 : qx_code 286 19 = some (19, .iaload, 20, 0, 0, 0) := by decide +kernel
theorem s286_19 {L : Nat} {xs : Nat → Int32} {d x : Nat} {M : qxM} {st : List Value} {ls : qxL} {t : Nat} {j : Int32} (hk : qx_kd t = 0) (hj : qx_ib j (qx_ln t) = true) : Rs L xs (d) 286 19 ls (.int j :: .ref t :: st) M x = Rs L xs (d) 286 20 ls (.int (M.1 t j.toNatClampNeg) :: st) M x := by
  have h1 := qx_kd_row (k := 0) (by decide) hk
  exact Rs_unless (qx_ib_not hj) c286_19 (by unfold qx_act; dsimp only; rw [h1]; rfl)
theorem c286_20 : qx_code 286 20 = some (20, .aload_n 0, 21, 0, 0, 0) := by decide +kernel
theorem s286_20 {L : Nat} {xs : Nat → Int32} {d x : Nat} {M : qxM} {st : List Value} {a1 : Option Value} {z : Nat} : Rs L xs (d) 286 20 [some (.ref z), a1] st M x = Rs L xs (d) 286 21 [some (.ref z), a1] (.ref z :: st) M x := Rs_next c286_20 rfl
theorem c286_21 : qx_code 286 21 = some (21, .iload_n 1, 22, 0, 0, 0) := by decide +kernel
theorem s286_21 {L : Nat} {xs : Nat → Int32} {d x : Nat} {M : qxM} {st : List Value} {a0 : Option Value} {z : Int32} : Rs L xs (d) 286 21 [a0, some (.int z)] st M x = Rs L xs (d) 286 22 [a0, some (.int z)] (.int z :: st) M x := Rs_next c286_21 rfl
theorem c286_22 : qx_code 286 22 = some (22, .invokevirtual 333, 25, 274, 2, 1958) := by decide +kernel
theorem s286_22 {L : Nat} {xs : Nat → Int32} {d x : Nat} {M : qxM} {st : List Value} {ls : qxL} {t : Nat} {z0 : Int32} (hk : qx_kd t = 18) (hs : st.length ≤ 4) : Rs L xs (d + 1) 286 22 ls (.int z0 :: .ref t :: st) M x = (Rs L xs d 274 0 [some (.ref t), some (.int z0), none, none] [] M 0).bind (qx_kn L xs (d + 1) 286 22 25 274 ls st x) := by
  have h1 : qx_act L xs (qx_rt 286) (22, .invokevirtual 333, 25, 274, 2, 1958) ls (.int z0 :: .ref t :: st) M = if 2 ≤ (.int z0 :: .ref t :: st).length ∧ st.length ≤ 4 then some (.inr (.inr (.inr (274, [.ref t, .int z0], st)))) else none := rfl
  rw [if_pos ⟨by simp [List.length_cons]; try omega, hs⟩] at h1
  have h2 := qx_kd_obj (k := 8) (by decide) hk
  exact Rs_call c286_22 h1 (by rw [show qx_args 274 [.ref t, .int z0] = decide (qx_sh t = some (.inl 8)) from rfl]; exact decide_eq_true h2)
theorem c286_25 : qx_code 286 25 = some (25, .invokestatic 194, 28, 209, 1, 1788) := by decide +kernel
theorem s286_25 {L : Nat} {xs : Nat → Int32} {d x : Nat} {M : qxM} {st : List Value} {ls : qxL} {z0 : Int32} (hs : st.length ≤ 4) : Rs L xs (d + 1) 286 25 ls (.int z0 :: st) M x = (Rs L xs d 209 0 [some (.int z0), none, none] [] M 0).bind (qx_kn L xs (d + 1) 286 25 28 209 ls st x) := by
  have h1 : qx_act L xs (qx_rt 286) (25, .invokestatic 194, 28, 209, 1, 1788) ls (.int z0 :: st) M = if 1 ≤ (.int z0 :: st).length ∧ st.length ≤ 4 then some (.inr (.inr (.inr (209, [.int z0], st)))) else none := rfl
  rw [if_pos ⟨by simp [List.length_cons]; try omega, hs⟩] at h1
  exact Rs_call c286_25 h1 rfl
theorem c286_28 : qx_code 286 28 = some (28, .iadd, 29, 0, 0, 0) := by decide +kernel
theorem s286_28 {L : Nat} {xs : Nat → Int32} {d x : Nat} {M : qxM} {st : List Value} {ls : qxL} {z y : Int32} : Rs L xs (d) 286 28 ls (.int y :: .int z :: st) M x = Rs L xs (d) 286 29 ls (.int (z + y) :: st) M x := Rs_next c286_28 rfl
theorem c286_29 : qx_code 286 29 = some (29, .aload_n 0, 30, 0, 0, 0) := by decide +kernel
theorem s286_29 {L : Nat} {xs : Nat → Int32} {d x : Nat} {M : qxM} {st : List Value} {a1 : Option Value} {z : Nat} : Rs L xs (d) 286 29 [some (.ref z), a1] st M x = Rs L xs (d) 286 30 [some (.ref z), a1] (.ref z :: st) M x := Rs_next c286_29 rfl
theorem c286_30 : qx_code 286 30 = some (30, .iload_n 1, 31, 0, 0, 0) := by decide +kernel
theorem s286_30 {L : Nat} {xs : Nat → Int32} {d x : Nat} {M : qxM} {st : List Value} {a0 : Option Value} {z : Int32} : Rs L xs (d) 286 30 [a0, some (.int z)] st M x = Rs L xs (d) 286 31 [a0, some (.int z)] (.int z :: st) M x := Rs_next c286_30 rfl
theorem c286_31 : qx_code 286 31 = some (31, .invokevirtual 336, 34, 277, 2, 1970) := by decide +kernel
theorem s286_31 {L : Nat} {xs : Nat → Int32} {d x : Nat} {M : qxM} {st : List Value} {ls : qxL} {t : Nat} {z0 : Int32} (hk : qx_kd t = 18) (hs : st.length ≤ 4) : Rs L xs (d + 1) 286 31 ls (.int z0 :: .ref t :: st) M x = (Rs L xs d 277 0 [some (.ref t), some (.int z0), none] [] M 0).bind (qx_kn L xs (d + 1) 286 31 34 277 ls st x) := by
  have h1 : qx_act L xs (qx_rt 286) (31, .invokevirtual 336, 34, 277, 2, 1970) ls (.int z0 :: .ref t :: st) M = if 2 ≤ (.int z0 :: .ref t :: st).length ∧ st.length ≤ 4 then some (.inr (.inr (.inr (277, [.ref t, .int z0], st)))) else none := rfl
  rw [if_pos ⟨by simp [List.length_cons]; try omega, hs⟩] at h1
  have h2 := qx_kd_obj (k := 8) (by decide) hk
  exact Rs_call c286_31 h1 (by rw [show qx_args 277 [.ref t, .int z0] = decide (qx_sh t = some (.inl 8)) from rfl]; exact decide_eq_true h2)
theorem c286_34 : qx_code 286 34 = some (34, .isub, 35, 0, 0, 0) := by decide +kernel
theorem s286_34 {L : Nat} {xs : Nat → Int32} {d x : Nat} {M : qxM} {st : List Value} {ls : qxL} {z y : Int32} : Rs L xs (d) 286 34 ls (.int y :: .int z :: st) M x = Rs L xs (d) 286 35 ls (.int (z - y) :: st) M x := Rs_next c286_34 rfl
theorem c286_35 : qx_code 286 35 = some (35, .iconst 2, 36, 0, 0, 0) := by decide +kernel
theorem s286_35 {L : Nat} {xs : Nat → Int32} {d x : Nat} {M : qxM} {st : List Value} {ls : qxL} : Rs L xs (d) 286 35 ls st M x = Rs L xs (d) 286 36 ls (.int (nI 2) :: st) M x := Rs_next c286_35 rfl
theorem c286_36 : qx_code 286 36 = some (36, .idiv, 37, 0, 0, 0) := by decide +kernel
theorem s286_36 {L : Nat} {xs : Nat → Int32} {d x : Nat} {M : qxM} {st : List Value} {ls : qxL} {z y : Int32} (h : ¬ y = 0) : Rs L xs (d) 286 36 ls (.int y :: .int z :: st) M x = Rs L xs (d) 286 37 ls (.int (z / y) :: st) M x := Rs_unless h c286_36 rfl
theorem c286_37 : qx_code 286 37 = some (37, .ireturn, 38, 0, 0, 0) := by decide +kernel
theorem s286_37 {L : Nat} {xs : Nat → Int32} {d x : Nat} {M : qxM} {ls : qxL} {z : Int32} : Rs L xs (d) 286 37 ls [.int z] M x = some (.inl (some (.int z)), M, x) := Rs_ret c286_37 rfl
theorem c287_0 : qx_code 287 0 = some (0, .iconst 0, 1, 0, 0, 0) := by decide +kernel
theorem s287_0 {L : Nat} {xs : Nat → Int32} {d x : Nat} {M : qxM} {st : List Value} {ls : qxL} : Rs L xs (d) 287 0 ls st M x = Rs L xs (d) 287 1 ls (.int (nI 0) :: st) M x := Rs_next c287_0 rfl
theorem c287_1 : qx_code 287 1 = some (1, .istore_n 2, 2, 0, 0, 0) := by decide +kernel
theorem s287_1i {L : Nat} {xs : Nat → Int32} {d x : Nat} {M : qxM} {st : List Value} {a0 a2 a3 a4 : Option Value} {z : Int32} {y : Int32} : Rs L xs (d) 287 1 [a0, some (.int y), a2, a3, a4] (.int z :: st) M x = Rs L xs (d) 287 2 [a0, some (.int y), some (.int z), a3, a4] st M x := Rs_next c287_1 rfl
theorem s287_1r {L : Nat} {xs : Nat → Int32} {d x : Nat} {M : qxM} {st : List Value} {a0 a2 a3 a4 : Option Value} {z : Int32} {y : Nat} : Rs L xs (d) 287 1 [a0, some (.ref y), a2, a3, a4] (.int z :: st) M x = Rs L xs (d) 287 2 [a0, some (.ref y), some (.int z), a3, a4] st M x := Rs_next c287_1 rfl
theorem s287_1n {L : Nat} {xs : Nat → Int32} {d x : Nat} {M : qxM} {st : List Value} {a0 a2 a3 a4 : Option Value} {z : Int32} : Rs L xs (d) 287 1 [a0, none, a2, a3, a4] (.int z :: st) M x = Rs L xs (d) 287 2 [a0, none, some (.int z), a3, a4] st M x := Rs_next c287_1 rfl
theorem c287_2 : qx_code 287 2 = some (2, .iload_n 1, 3, 0, 0, 0) := by decide +kernel
theorem s287_2 {L : Nat} {xs : Nat → Int32} {d x : Nat} {M : qxM} {st : List Value} {a0 a2 a3 a4 : Option Value} {z : Int32} : Rs L xs (d) 287 2 [a0, some (.int z), a2, a3, a4] st M x = Rs L xs (d) 287 3 [a0, some (.int z), a2, a3, a4] (.int z :: st) M x := Rs_next c287_2 rfl
theorem c287_3 : qx_code 287 3 = some (3, .istore_n 3, 4, 0, 0, 0) := by decide +kernel
theorem s287_3i {L : Nat} {xs : Nat → Int32} {d x : Nat} {M : qxM} {st : List Value} {a0 a1 a3 a4 : Option Value} {z : Int32} {y : Int32} : Rs L xs (d) 287 3 [a0, a1, some (.int y), a3, a4] (.int z :: st) M x = Rs L xs (d) 287 4 [a0, a1, some (.int y), some (.int z), a4] st M x := Rs_next c287_3 rfl
theorem s287_3r {L : Nat} {xs : Nat → Int32} {d x : Nat} {M : qxM} {st : List Value} {a0 a1 a3 a4 : Option Value} {z : Int32} {y : Nat} : Rs L xs (d) 287 3 [a0, a1, some (.ref y), a3, a4] (.int z :: st) M x = Rs L xs (d) 287 4 [a0, a1, some (.ref y), some (.int z), a4] st M x := Rs_next c287_3 rfl
theorem s287_3n {L : Nat} {xs : Nat → Int32} {d x : Nat} {M : qxM} {st : List Value} {a0 a1 a3 a4 : Option Value} {z : Int32} : Rs L xs (d) 287 3 [a0, a1, none, a3, a4] (.int z :: st) M x = Rs L xs (d) 287 4 [a0, a1, none, some (.int z), a4] st M x := Rs_next c287_3 rfl
theorem c287_4 : qx_code 287 4 = some (4, .iload_n 3, 5, 0, 0, 0) := by decide +kernel
theorem s287_4 {L : Nat} {xs : Nat → Int32} {d x : Nat} {M : qxM} {st : List Value} {a0 a1 a2 a4 : Option Value} {z : Int32} : Rs L xs (d) 287 4 [a0, a1, a2, some (.int z), a4] st M x = Rs L xs (d) 287 5 [a0, a1, a2, some (.int z), a4] (.int z :: st) M x := Rs_next c287_4 rfl
theorem c287_5 : qx_code 287 5 = some (5, .ifCond .eq 34, 8, 39, 0, 0) := by decide +kernel
theorem s287_5 {L : Nat} {xs : Nat → Int32} {d x : Nat} {M : qxM} {st : List Value} {ls : qxL} {z : Int32} : Rs L xs (d) 287 5 ls (.int z :: st) M x = if z = 0 then Rs L xs (d) 287 39 ls st M x else Rs L xs (d) 287 8 ls st M x := Rs_ite c287_5 rfl
theorem c287_8 : qx_code 287 8 = some (8, .aload_n 0, 9, 0, 0, 0) := by decide +kernel
theorem s287_8 {L : Nat} {xs : Nat → Int32} {d x : Nat} {M : qxM} {st : List Value} {a1 a2 a3 a4 : Option Value} {z : Nat} : Rs L xs (d) 287 8 [some (.ref z), a1, a2, a3, a4] st M x = Rs L xs (d) 287 9 [some (.ref z), a1, a2, a3, a4] (.ref z :: st) M x := Rs_next c287_8 rfl
theorem c287_9 : qx_code 287 9 = some (9, .iload_n 3, 10, 0, 0, 0) := by decide +kernel
theorem s287_9 {L : Nat} {xs : Nat → Int32} {d x : Nat} {M : qxM} {st : List Value} {a0 a1 a2 a4 : Option Value} {z : Int32} : Rs L xs (d) 287 9 [a0, a1, a2, some (.int z), a4] st M x = Rs L xs (d) 287 10 [a0, a1, a2, some (.int z), a4] (.int z :: st) M x := Rs_next c287_9 rfl
theorem c287_10 : qx_code 287 10 = some (10, .invokestatic 235, 13, 210, 1, 1823) := by decide +kernel
theorem s287_10 {L : Nat} {xs : Nat → Int32} {d x : Nat} {M : qxM} {st : List Value} {ls : qxL} {z0 : Int32} (hs : st.length ≤ 4) : Rs L xs (d + 1) 287 10 ls (.int z0 :: st) M x = (Rs L xs d 210 0 [some (.int z0)] [] M 0).bind (qx_kn L xs (d + 1) 287 10 13 210 ls st x) := by
  have h1 : qx_act L xs (qx_rt 287) (10, .invokestatic 235, 13, 210, 1, 1823) ls (.int z0 :: st) M = if 1 ≤ (.int z0 :: st).length ∧ st.length ≤ 4 then some (.inr (.inr (.inr (210, [.int z0], st)))) else none := rfl
  rw [if_pos ⟨by simp [List.length_cons]; try omega, hs⟩] at h1
  exact Rs_call c287_10 h1 rfl
theorem c287_13 : qx_code 287 13 = some (13, .iload_n 1, 14, 0, 0, 0) := by decide +kernel
theorem s287_13 {L : Nat} {xs : Nat → Int32} {d x : Nat} {M : qxM} {st : List Value} {a0 a2 a3 a4 : Option Value} {z : Int32} : Rs L xs (d) 287 13 [a0, some (.int z), a2, a3, a4] st M x = Rs L xs (d) 287 14 [a0, some (.int z), a2, a3, a4] (.int z :: st) M x := Rs_next c287_13 rfl
theorem c287_14 : qx_code 287 14 = some (14, .invokevirtual 324, 17, 275, 3, 1978) := by decide +kernel
theorem s287_14 {L : Nat} {xs : Nat → Int32} {d x : Nat} {M : qxM} {st : List Value} {ls : qxL} {t : Nat} {z0 : Int32} {z1 : Int32} (hk : qx_kd t = 18) (hs : st.length ≤ 4) : Rs L xs (d + 1) 287 14 ls (.int z1 :: .int z0 :: .ref t :: st) M x = (Rs L xs d 275 0 [some (.ref t), some (.int z0), some (.int z1), none, none, none] [] M 0).bind (qx_kn L xs (d + 1) 287 14 17 275 ls st x) := by
  have h1 : qx_act L xs (qx_rt 287) (14, .invokevirtual 324, 17, 275, 3, 1978) ls (.int z1 :: .int z0 :: .ref t :: st) M = if 3 ≤ (.int z1 :: .int z0 :: .ref t :: st).length ∧ st.length ≤ 4 then some (.inr (.inr (.inr (275, [.ref t, .int z0, .int z1], st)))) else none := rfl
  rw [if_pos ⟨by simp [List.length_cons]; try omega, hs⟩] at h1
  have h2 := qx_kd_obj (k := 8) (by decide) hk
  exact Rs_call c287_14 h1 (by rw [show qx_args 275 [.ref t, .int z0, .int z1] = decide (qx_sh t = some (.inl 8)) from rfl]; exact decide_eq_true h2)
theorem c287_17 : qx_code 287 17 = some (17, .istore 4, 19, 0, 0, 0) := by decide +kernel
theorem s287_17i {L : Nat} {xs : Nat → Int32} {d x : Nat} {M : qxM} {st : List Value} {a0 a1 a2 a4 : Option Value} {z : Int32} {y : Int32} : Rs L xs (d) 287 17 [a0, a1, a2, some (.int y), a4] (.int z :: st) M x = Rs L xs (d) 287 19 [a0, a1, a2, some (.int y), some (.int z)] st M x := Rs_next c287_17 rfl
theorem s287_17r {L : Nat} {xs : Nat → Int32} {d x : Nat} {M : qxM} {st : List Value} {a0 a1 a2 a4 : Option Value} {z : Int32} {y : Nat} : Rs L xs (d) 287 17 [a0, a1, a2, some (.ref y), a4] (.int z :: st) M x = Rs L xs (d) 287 19 [a0, a1, a2, some (.ref y), some (.int z)] st M x := Rs_next c287_17 rfl
theorem s287_17n {L : Nat} {xs : Nat → Int32} {d x : Nat} {M : qxM} {st : List Value} {a0 a1 a2 a4 : Option Value} {z : Int32} : Rs L xs (d) 287 17 [a0, a1, a2, none, a4] (.int z :: st) M x = Rs L xs (d) 287 19 [a0, a1, a2, none, some (.int z)] st M x := Rs_next c287_17 rfl
theorem c287_19 : qx_code 287 19 = some (19, .iload_n 2, 20, 0, 0, 0) := by decide +kernel
theorem s287_19 {L : Nat} {xs : Nat → Int32} {d x : Nat} {M : qxM} {st : List Value} {a0 a1 a3 a4 : Option Value} {z : Int32} : Rs L xs (d) 287 19 [a0, a1, some (.int z), a3, a4] st M x = Rs L xs (d) 287 20 [a0, a1, some (.int z), a3, a4] (.int z :: st) M x := Rs_next c287_19 rfl
theorem c287_20 : qx_code 287 20 = some (20, .iload 4, 22, 0, 0, 0) := by decide +kernel
theorem s287_20 {L : Nat} {xs : Nat → Int32} {d x : Nat} {M : qxM} {st : List Value} {a0 a1 a2 a3 : Option Value} {z : Int32} : Rs L xs (d) 287 20 [a0, a1, a2, a3, some (.int z)] st M x = Rs L xs (d) 287 22 [a0, a1, a2, a3, some (.int z)] (.int z :: st) M x := Rs_next c287_20 rfl
theorem c287_22 : qx_code 287 22 = some (22, .invokestatic 194, 25, 209, 1, 1788) := by decide +kernel
theorem s287_22 {L : Nat} {xs : Nat → Int32} {d x : Nat} {M : qxM} {st : List Value} {ls : qxL} {z0 : Int32} (hs : st.length ≤ 4) : Rs L xs (d + 1) 287 22 ls (.int z0 :: st) M x = (Rs L xs d 209 0 [some (.int z0), none, none] [] M 0).bind (qx_kn L xs (d + 1) 287 22 25 209 ls st x) := by
  have h1 : qx_act L xs (qx_rt 287) (22, .invokestatic 194, 25, 209, 1, 1788) ls (.int z0 :: st) M = if 1 ≤ (.int z0 :: st).length ∧ st.length ≤ 4 then some (.inr (.inr (.inr (209, [.int z0], st)))) else none := rfl
  rw [if_pos ⟨by simp [List.length_cons]; try omega, hs⟩] at h1
  exact Rs_call c287_22 h1 rfl
theorem c287_25 : qx_code 287 25 = some (25, .iconst 2, 26, 0, 0, 0) := by decide +kernel
theorem s287_25 {L : Nat} {xs : Nat → Int32} {d x : Nat} {M : qxM} {st : List Value} {ls : qxL} : Rs L xs (d) 287 25 ls st M x = Rs L xs (d) 287 26 ls (.int (nI 2) :: st) M x := Rs_next c287_25 rfl
theorem c287_26 : qx_code 287 26 = some (26, .irem, 27, 0, 0, 0) := by decide +kernel
theorem s287_26 {L : Nat} {xs : Nat → Int32} {d x : Nat} {M : qxM} {st : List Value} {ls : qxL} {z y : Int32} (h : ¬ y = 0) : Rs L xs (d) 287 26 ls (.int y :: .int z :: st) M x = Rs L xs (d) 287 27 ls (.int (z - z / y * y) :: st) M x := Rs_unless h c287_26 rfl
theorem c287_27 : qx_code 287 27 = some (27, .iadd, 28, 0, 0, 0) := by decide +kernel
theorem s287_27 {L : Nat} {xs : Nat → Int32} {d x : Nat} {M : qxM} {st : List Value} {ls : qxL} {z y : Int32} : Rs L xs (d) 287 27 ls (.int y :: .int z :: st) M x = Rs L xs (d) 287 28 ls (.int (z + y) :: st) M x := Rs_next c287_27 rfl
theorem c287_28 : qx_code 287 28 = some (28, .istore_n 2, 29, 0, 0, 0) := by decide +kernel
theorem s287_28i {L : Nat} {xs : Nat → Int32} {d x : Nat} {M : qxM} {st : List Value} {a0 a2 a3 a4 : Option Value} {z : Int32} {y : Int32} : Rs L xs (d) 287 28 [a0, some (.int y), a2, a3, a4] (.int z :: st) M x = Rs L xs (d) 287 29 [a0, some (.int y), some (.int z), a3, a4] st M x := Rs_next c287_28 rfl
theorem s287_28r {L : Nat} {xs : Nat → Int32} {d x : Nat} {M : qxM} {st : List Value} {a0 a2 a3 a4 : Option Value} {z : Int32} {y : Nat} : Rs L xs (d) 287 28 [a0, some (.ref y), a2, a3, a4] (.int z :: st) M x = Rs L xs (d) 287 29 [a0, some (.ref y), some (.int z), a3, a4] st M x := Rs_next c287_28 rfl
theorem s287_28n {L : Nat} {xs : Nat → Int32} {d x : Nat} {M : qxM} {st : List Value} {a0 a2 a3 a4 : Option Value} {z : Int32} : Rs L xs (d) 287 28 [a0, none, a2, a3, a4] (.int z :: st) M x = Rs L xs (d) 287 29 [a0, none, some (.int z), a3, a4] st M x := Rs_next c287_28 rfl
theorem c287_29 : qx_code 287 29 = some (29, .iload_n 3, 30, 0, 0, 0) := by decide +kernel
theorem s287_29 {L : Nat} {xs : Nat → Int32} {d x : Nat} {M : qxM} {st : List Value} {a0 a1 a2 a4 : Option Value} {z : Int32} : Rs L xs (d) 287 29 [a0, a1, a2, some (.int z), a4] st M x = Rs L xs (d) 287 30 [a0, a1, a2, some (.int z), a4] (.int z :: st) M x := Rs_next c287_29 rfl
theorem c287_30 : qx_code 287 30 = some (30, .iload 4, 32, 0, 0, 0) := by decide +kernel
theorem s287_30 {L : Nat} {xs : Nat → Int32} {d x : Nat} {M : qxM} {st : List Value} {a0 a1 a2 a3 : Option Value} {z : Int32} : Rs L xs (d) 287 30 [a0, a1, a2, a3, some (.int z)] st M x = Rs L xs (d) 287 32 [a0, a1, a2, a3, some (.int z)] (.int z :: st) M x := Rs_next c287_30 rfl
theorem c287_32 : qx_code 287 32 = some (32, .iconst (-1), 33, 0, 0, 0) := by decide +kernel
theorem s287_32 {L : Nat} {xs : Nat → Int32} {d x : Nat} {M : qxM} {st : List Value} {ls : qxL} : Rs L xs (d) 287 32 ls st M x = Rs L xs (d) 287 33 ls (.int (-1) :: st) M x := Rs_next c287_32 rfl
theorem c287_33 : qx_code 287 33 = some (33, .ixor, 34, 0, 0, 0) := by decide +kernel
theorem s287_33 {L : Nat} {xs : Nat → Int32} {d x : Nat} {M : qxM} {st : List Value} {ls : qxL} {z y : Int32} : Rs L xs (d) 287 33 ls (.int y :: .int z :: st) M x = Rs L xs (d) 287 34 ls (.int (z ^^^ y) :: st) M x := Rs_next c287_33 rfl
theorem c287_34 : qx_code 287 34 = some (34, .iand, 35, 0, 0, 0) := by decide +kernel
theorem s287_34 {L : Nat} {xs : Nat → Int32} {d x : Nat} {M : qxM} {st : List Value} {ls : qxL} {z y : Int32} : Rs L xs (d) 287 34 ls (.int y :: .int z :: st) M x = Rs L xs (d) 287 35 ls (.int (z &&& y) :: st) M x := Rs_next c287_34 rfl
theorem c287_35 : qx_code 287 35 = some (35, .istore_n 3, 36, 0, 0, 0) := by decide +kernel
theorem s287_35i {L : Nat} {xs : Nat → Int32} {d x : Nat} {M : qxM} {st : List Value} {a0 a1 a3 a4 : Option Value} {z : Int32} {y : Int32} : Rs L xs (d) 287 35 [a0, a1, some (.int y), a3, a4] (.int z :: st) M x = Rs L xs (d) 287 36 [a0, a1, some (.int y), some (.int z), a4] st M x := Rs_next c287_35 rfl
theorem s287_35r {L : Nat} {xs : Nat → Int32} {d x : Nat} {M : qxM} {st : List Value} {a0 a1 a3 a4 : Option Value} {z : Int32} {y : Nat} : Rs L xs (d) 287 35 [a0, a1, some (.ref y), a3, a4] (.int z :: st) M x = Rs L xs (d) 287 36 [a0, a1, some (.ref y), some (.int z), a4] st M x := Rs_next c287_35 rfl
theorem s287_35n {L : Nat} {xs : Nat → Int32} {d x : Nat} {M : qxM} {st : List Value} {a0 a1 a3 a4 : Option Value} {z : Int32} : Rs L xs (d) 287 35 [a0, a1, none, a3, a4] (.int z :: st) M x = Rs L xs (d) 287 36 [a0, a1, none, some (.int z), a4] st M x := Rs_next c287_35 rfl
theorem c287_36 : qx_code 287 36 = some (36, .goto (-32), 39, 4, 0, 0) := by decide +kernel
theorem s287_36 {L : Nat} {xs : Nat → Int32} {d x : Nat} {M : qxM} {st : List Value} {ls : qxL} : Rs L xs (d) 287 36 ls st M x = Rs L xs (d) 287 4 ls st M x := Rs_next c287_36 rfl
theorem c287_39 : qx_code 287 39 = some (39, .iload_n 2, 40, 0, 0, 0) := by decide +kernel
theorem s287_39 {L : Nat} {xs : Nat → Int32} {d x : Nat} {M : qxM} {st : List Value} {a0 a1 a3 a4 : Option Value} {z : Int32} : Rs L xs (d) 287 39 [a0, a1, some (.int z), a3, a4] st M x = Rs L xs (d) 287 40 [a0, a1, some (.int z), a3, a4] (.int z :: st) M x := Rs_next c287_39 rfl
theorem c287_40 : qx_code 287 40 = some (40, .ireturn, 41, 0, 0, 0) := by decide +kernel
theorem s287_40 {L : Nat} {xs : Nat → Int32} {d x : Nat} {M : qxM} {ls : qxL} {z : Int32} : Rs L xs (d) 287 40 ls [.int z] M x = some (.inl (some (.int z)), M, x) := Rs_ret c287_40 rfl
theorem c288_0 : qx_code 288 0 = some (0, .aload_n 0, 1, 0, 0, 0) := by decide +kernel
theorem s288_0 {L : Nat} {xs : Nat → Int32} {d x : Nat} {M : qxM} {st : List Value} {a1 : Option Value} {z : Nat} : Rs L xs (d) 288 0 [some (.ref z), a1] st M x = Rs L xs (d) 288 1 [some (.ref z), a1] (.ref z :: st) M x := Rs_next c288_0 rfl
theorem c288_1 : qx_code 288 1 = some (1, .getfield 9, 4, 8, 1, 1546) := by decide +kernel
theorem s288_1 {L : Nat} {xs : Nat → Int32} {d x : Nat} {M : qxM} {st : List Value} {ls : qxL} {t : Nat} (hk : qx_kd t = 18) : Rs L xs (d) 288 1 ls (.ref t :: st) M x = Rs L xs (d) 288 4 ls (.ref (t + 1) :: st) M x := Rs_when (qx_kd_obj (k := 8) (by decide) hk) c288_1 rfl
theorem c288_4 : qx_code 288 4 = some (4, .iconst 0, 5, 0, 0, 0) := by decide +kernel
theorem s288_4 {L : Nat} {xs : Nat → Int32} {d x : Nat} {M : qxM} {st : List Value} {ls : qxL} : Rs L xs (d) 288 4 ls st M x = Rs L xs (d) 288 5 ls (.int (nI 0) :: st) M x := Rs_next c288_4 rfl
theorem c288_5 : qx_code 288 5 = some (5, .iaload, 6, 0, 0, 0) := by decide +kernel
theorem s288_5 {L : Nat} {xs : Nat → Int32} {d x : Nat} {M : qxM} {st : List Value} {ls : qxL} {t : Nat} {j : Int32} (hk : qx_kd t = 0) (hj : qx_ib j (qx_ln t) = true) : Rs L xs (d) 288 5 ls (.int j :: .ref t :: st) M x = Rs L xs (d) 288 6 ls (.int (M.1 t j.toNatClampNeg) :: st) M x := by
  have h1 := qx_kd_row (k := 0) (by decide) hk
  exact Rs_unless (qx_ib_not hj) c288_5 (by unfold qx_act; dsimp only; rw [h1]; rfl)
theorem c288_6 : qx_code 288 6 = some (6, .iload_n 1, 7, 0, 0, 0) := by decide +kernel
theorem s288_6 {L : Nat} {xs : Nat → Int32} {d x : Nat} {M : qxM} {st : List Value} {a0 : Option Value} {z : Int32} : Rs L xs (d) 288 6 [a0, some (.int z)] st M x = Rs L xs (d) 288 7 [a0, some (.int z)] (.int z :: st) M x := Rs_next c288_6 rfl
theorem c288_7 : qx_code 288 7 = some (7, .invokestatic 194, 10, 209, 1, 1788) := by decide +kernel
theorem s288_7 {L : Nat} {xs : Nat → Int32} {d x : Nat} {M : qxM} {st : List Value} {ls : qxL} {z0 : Int32} (hs : st.length ≤ 4) : Rs L xs (d + 1) 288 7 ls (.int z0 :: st) M x = (Rs L xs d 209 0 [some (.int z0), none, none] [] M 0).bind (qx_kn L xs (d + 1) 288 7 10 209 ls st x) := by
  have h1 : qx_act L xs (qx_rt 288) (7, .invokestatic 194, 10, 209, 1, 1788) ls (.int z0 :: st) M = if 1 ≤ (.int z0 :: st).length ∧ st.length ≤ 4 then some (.inr (.inr (.inr (209, [.int z0], st)))) else none := rfl
  rw [if_pos ⟨by simp [List.length_cons]; try omega, hs⟩] at h1
  exact Rs_call c288_7 h1 rfl
theorem c288_10 : qx_code 288 10 = some (10, .iadd, 11, 0, 0, 0) := by decide +kernel
theorem s288_10 {L : Nat} {xs : Nat → Int32} {d x : Nat} {M : qxM} {st : List Value} {ls : qxL} {z y : Int32} : Rs L xs (d) 288 10 ls (.int y :: .int z :: st) M x = Rs L xs (d) 288 11 ls (.int (z + y) :: st) M x := Rs_next c288_10 rfl
theorem c288_11 : qx_code 288 11 = some (11, .aload_n 0, 12, 0, 0, 0) := by decide +kernel
theorem s288_11 {L : Nat} {xs : Nat → Int32} {d x : Nat} {M : qxM} {st : List Value} {a1 : Option Value} {z : Nat} : Rs L xs (d) 288 11 [some (.ref z), a1] st M x = Rs L xs (d) 288 12 [some (.ref z), a1] (.ref z :: st) M x := Rs_next c288_11 rfl
theorem c288_12 : qx_code 288 12 = some (12, .aload_n 0, 13, 0, 0, 0) := by decide +kernel
theorem s288_12 {L : Nat} {xs : Nat → Int32} {d x : Nat} {M : qxM} {st : List Value} {a1 : Option Value} {z : Nat} : Rs L xs (d) 288 12 [some (.ref z), a1] st M x = Rs L xs (d) 288 13 [some (.ref z), a1] (.ref z :: st) M x := Rs_next c288_12 rfl
theorem c288_13 : qx_code 288 13 = some (13, .invokevirtual 312, 16, 212, 1, 1926) := by decide +kernel
theorem s288_13 {L : Nat} {xs : Nat → Int32} {d x : Nat} {M : qxM} {st : List Value} {ls : qxL} {t : Nat} (hk : qx_kd t = 18) (hs : st.length ≤ 4) : Rs L xs (d + 1) 288 13 ls (.ref t :: st) M x = (Rs L xs d 212 0 [some (.ref t)] [] M 0).bind (qx_kn L xs (d + 1) 288 13 16 212 ls st x) := by
  have h1 : qx_act L xs (qx_rt 288) (13, .invokevirtual 312, 16, 212, 1, 1926) ls (.ref t :: st) M = if 1 ≤ (.ref t :: st).length ∧ st.length ≤ 4 then some (.inr (.inr (.inr (212, [.ref t], st)))) else none := rfl
  rw [if_pos ⟨by simp [List.length_cons]; try omega, hs⟩] at h1
  have h2 := qx_kd_obj (k := 8) (by decide) hk
  exact Rs_call c288_13 h1 (by rw [show qx_args 212 [.ref t] = decide (qx_sh t = some (.inl 8)) from rfl]; exact decide_eq_true h2)
theorem c288_16 : qx_code 288 16 = some (16, .iload_n 1, 17, 0, 0, 0) := by decide +kernel
theorem s288_16 {L : Nat} {xs : Nat → Int32} {d x : Nat} {M : qxM} {st : List Value} {a0 : Option Value} {z : Int32} : Rs L xs (d) 288 16 [a0, some (.int z)] st M x = Rs L xs (d) 288 17 [a0, some (.int z)] (.int z :: st) M x := Rs_next c288_16 rfl
theorem c288_17 : qx_code 288 17 = some (17, .iconst (-1), 18, 0, 0, 0) := by decide +kernel
theorem s288_17 {L : Nat} {xs : Nat → Int32} {d x : Nat} {M : qxM} {st : List Value} {ls : qxL} : Rs L xs (d) 288 17 ls st M x = Rs L xs (d) 288 18 ls (.int (-1) :: st) M x := Rs_next c288_17 rfl
theorem c288_18 : qx_code 288 18 = some (18, .ixor, 19, 0, 0, 0) := by decide +kernel
theorem s288_18 {L : Nat} {xs : Nat → Int32} {d x : Nat} {M : qxM} {st : List Value} {ls : qxL} {z y : Int32} : Rs L xs (d) 288 18 ls (.int y :: .int z :: st) M x = Rs L xs (d) 288 19 ls (.int (z ^^^ y) :: st) M x := Rs_next c288_18 rfl
theorem c288_19 : qx_code 288 19 = some (19, .iand, 20, 0, 0, 0) := by decide +kernel
theorem s288_19 {L : Nat} {xs : Nat → Int32} {d x : Nat} {M : qxM} {st : List Value} {ls : qxL} {z y : Int32} : Rs L xs (d) 288 19 ls (.int y :: .int z :: st) M x = Rs L xs (d) 288 20 ls (.int (z &&& y) :: st) M x := Rs_next c288_19 rfl
theorem c288_20 : qx_code 288 20 = some (20, .invokevirtual 339, 23, 287, 2, 1998) := by decide +kernel
theorem s288_20 {L : Nat} {xs : Nat → Int32} {d x : Nat} {M : qxM} {st : List Value} {ls : qxL} {t : Nat} {z0 : Int32} (hk : qx_kd t = 18) (hs : st.length ≤ 4) : Rs L xs (d + 1) 288 20 ls (.int z0 :: .ref t :: st) M x = (Rs L xs d 287 0 [some (.ref t), some (.int z0), none, none, none] [] M 0).bind (qx_kn L xs (d + 1) 288 20 23 287 ls st x) := by
  have h1 : qx_act L xs (qx_rt 288) (20, .invokevirtual 339, 23, 287, 2, 1998) ls (.int z0 :: .ref t :: st) M = if 2 ≤ (.int z0 :: .ref t :: st).length ∧ st.length ≤ 4 then some (.inr (.inr (.inr (287, [.ref t, .int z0], st)))) else none := rfl
  rw [if_pos ⟨by simp [List.length_cons]; try omega, hs⟩] at h1
  have h2 := qx_kd_obj (k := 8) (by decide) hk
  exact Rs_call c288_20 h1 (by rw [show qx_args 287 [.ref t, .int z0] = decide (qx_sh t = some (.inl 8)) from rfl]; exact decide_eq_true h2)
theorem c288_23 : qx_code 288 23 = some (23, .isub, 24, 0, 0, 0) := by decide +kernel
theorem s288_23 {L : Nat} {xs : Nat → Int32} {d x : Nat} {M : qxM} {st : List Value} {ls : qxL} {z y : Int32} : Rs L xs (d) 288 23 ls (.int y :: .int z :: st) M x = Rs L xs (d) 288 24 ls (.int (z - y) :: st) M x := Rs_next c288_23 rfl
theorem c288_24 : qx_code 288 24 = some (24, .iconst 2, 25, 0, 0, 0) := by decide +kernel
theorem s288_24 {L : Nat} {xs : Nat → Int32} {d x : Nat} {M : qxM} {st : List Value} {ls : qxL} : Rs L xs (d) 288 24 ls st M x = Rs L xs (d) 288 25 ls (.int (nI 2) :: st) M x := Rs_next c288_24 rfl
theorem c288_25 : qx_code 288 25 = some (25, .aload_n 0, 26, 0, 0, 0) := by decide +kernel
theorem s288_25 {L : Nat} {xs : Nat → Int32} {d x : Nat} {M : qxM} {st : List Value} {a1 : Option Value} {z : Nat} : Rs L xs (d) 288 25 [some (.ref z), a1] st M x = Rs L xs (d) 288 26 [some (.ref z), a1] (.ref z :: st) M x := Rs_next c288_25 rfl
theorem c288_26 : qx_code 288 26 = some (26, .getfield 34, 29, 8, 17, 1562) := by decide +kernel
theorem s288_26 {L : Nat} {xs : Nat → Int32} {d x : Nat} {M : qxM} {st : List Value} {ls : qxL} {t : Nat} (hk : qx_kd t = 18) : Rs L xs (d) 288 26 ls (.ref t :: st) M x = Rs L xs (d) 288 29 ls (.ref (t + 7) :: st) M x := Rs_when (qx_kd_obj (k := 8) (by decide) hk) c288_26 rfl
theorem c288_29 : qx_code 288 29 = some (29, .aload_n 0, 30, 0, 0, 0) := by decide +kernel
theorem s288_29 {L : Nat} {xs : Nat → Int32} {d x : Nat} {M : qxM} {st : List Value} {a1 : Option Value} {z : Nat} : Rs L xs (d) 288 29 [some (.ref z), a1] st M x = Rs L xs (d) 288 30 [some (.ref z), a1] (.ref z :: st) M x := Rs_next c288_29 rfl
theorem c288_30 : qx_code 288 30 = some (30, .invokevirtual 312, 33, 212, 1, 1926) := by decide +kernel
theorem s288_30 {L : Nat} {xs : Nat → Int32} {d x : Nat} {M : qxM} {st : List Value} {ls : qxL} {t : Nat} (hk : qx_kd t = 18) (hs : st.length ≤ 4) : Rs L xs (d + 1) 288 30 ls (.ref t :: st) M x = (Rs L xs d 212 0 [some (.ref t)] [] M 0).bind (qx_kn L xs (d + 1) 288 30 33 212 ls st x) := by
  have h1 : qx_act L xs (qx_rt 288) (30, .invokevirtual 312, 33, 212, 1, 1926) ls (.ref t :: st) M = if 1 ≤ (.ref t :: st).length ∧ st.length ≤ 4 then some (.inr (.inr (.inr (212, [.ref t], st)))) else none := rfl
  rw [if_pos ⟨by simp [List.length_cons]; try omega, hs⟩] at h1
  have h2 := qx_kd_obj (k := 8) (by decide) hk
  exact Rs_call c288_30 h1 (by rw [show qx_args 212 [.ref t] = decide (qx_sh t = some (.inl 8)) from rfl]; exact decide_eq_true h2)
theorem c288_33 : qx_code 288 33 = some (33, .baload, 34, 0, 0, 0) := by decide +kernel
theorem s288_33 {L : Nat} {xs : Nat → Int32} {d x : Nat} {M : qxM} {st : List Value} {ls : qxL} {t : Nat} {j : Int32} (hk : qx_kd t = 1) (hj : qx_ib j (qx_ln t) = true) : Rs L xs (d) 288 33 ls (.int j :: .ref t :: st) M x = Rs L xs (d) 288 34 ls (.int (M.1 t j.toNatClampNeg) :: st) M x := by
  have h1 := qx_kd_row (k := 1) (by decide) hk
  exact Rs_unless (qx_ib_not hj) c288_33 (by unfold qx_act; dsimp only; rw [h1]; rfl)
theorem s288_33z {L : Nat} {xs : Nat → Int32} {d x : Nat} {M : qxM} {st : List Value} {ls : qxL} {t : Nat} {j : Int32} (hk : qx_kd t = 2) (hj : qx_ib j (qx_ln t) = true) : Rs L xs (d) 288 33 ls (.int j :: .ref t :: st) M x = Rs L xs (d) 288 34 ls (.int (M.1 t j.toNatClampNeg) :: st) M x := by
  have h1 := qx_kd_row (k := 2) (by decide) hk
  exact Rs_unless (qx_ib_not hj) c288_33 (by unfold qx_act; dsimp only; rw [h1]; rfl)
theorem c288_34 : qx_code 288 34 = some (34, .imul, 35, 0, 0, 0) := by decide +kernel
theorem s288_34 {L : Nat} {xs : Nat → Int32} {d x : Nat} {M : qxM} {st : List Value} {ls : qxL} {z y : Int32} : Rs L xs (d) 288 34 ls (.int y :: .int z :: st) M x = Rs L xs (d) 288 35 ls (.int (z * y) :: st) M x := Rs_next c288_34 rfl
theorem c288_35 : qx_code 288 35 = some (35, .if_icmp .ne 7, 38, 42, 0, 0) := by decide +kernel
theorem s288_35 {L : Nat} {xs : Nat → Int32} {d x : Nat} {M : qxM} {st : List Value} {ls : qxL} {z y : Int32} : Rs L xs (d) 288 35 ls (.int y :: .int z :: st) M x = if z = y then Rs L xs (d) 288 38 ls st M x else Rs L xs (d) 288 42 ls st M x := Rs_ite c288_35 rfl
theorem c288_38 : qx_code 288 38 = some (38, .iconst 1, 39, 0, 0, 0) := by decide +kernel
theorem s288_38 {L : Nat} {xs : Nat → Int32} {d x : Nat} {M : qxM} {st : List Value} {ls : qxL} : Rs L xs (d) 288 38 ls st M x = Rs L xs (d) 288 39 ls (.int (nI 1) :: st) M x := Rs_next c288_38 rfl
theorem c288_39 : qx_code 288 39 = some (39, .goto 4, 42, 43, 0, 0) := by decide +kernel
theorem s288_39 {L : Nat} {xs : Nat → Int32} {d x : Nat} {M : qxM} {st : List Value} {ls : qxL} : Rs L xs (d) 288 39 ls st M x = Rs L xs (d) 288 43 ls st M x := Rs_next c288_39 rfl
theorem c288_42 : qx_code 288 42 = some (42, .iconst 0, 43, 0, 0, 0) := by decide +kernel
theorem s288_42 {L : Nat} {xs : Nat → Int32} {d x : Nat} {M : qxM} {st : List Value} {ls : qxL} : Rs L xs (d) 288 42 ls st M x = Rs L xs (d) 288 43 ls (.int (nI 0) :: st) M x := Rs_next c288_42 rfl
theorem c288_43 : qx_code 288 43 = some (43, .ireturn, 44, 0, 0, 0) := by decide +kernel
theorem s288_43 {L : Nat} {xs : Nat → Int32} {d x : Nat} {M : qxM} {ls : qxL} {z : Int32} (h01 : z = 0 ∨ z = 1) : Rs L xs (d) 288 43 ls [.int z] M x = some (.inl (some (.int z)), M, x) := Rs_retw h01 c288_43 rfl
theorem c289_0 : qx_code 289 0 = some (0, .iload_n 1, 1, 0, 0, 0) := by decide +kernel
theorem s289_0 {L : Nat} {xs : Nat → Int32} {d x : Nat} {M : qxM} {st : List Value} {a0 : Option Value} {z : Int32} : Rs L xs (d) 289 0 [a0, some (.int z)] st M x = Rs L xs (d) 289 1 [a0, some (.int z)] (.int z :: st) M x := Rs_next c289_0 rfl
theorem c289_1 : qx_code 289 1 = some (1, .aload_n 0, 2, 0, 0, 0) := by decide +kernel
theorem s289_1 {L : Nat} {xs : Nat → Int32} {d x : Nat} {M : qxM} {st : List Value} {a1 : Option Value} {z : Nat} : Rs L xs (d) 289 1 [some (.ref z), a1] st M x = Rs L xs (d) 289 2 [some (.ref z), a1] (.ref z :: st) M x := Rs_next c289_1 rfl
theorem c289_2 : qx_code 289 2 = some (2, .invokevirtual 312, 5, 212, 1, 1926) := by decide +kernel
theorem s289_2 {L : Nat} {xs : Nat → Int32} {d x : Nat} {M : qxM} {st : List Value} {ls : qxL} {t : Nat} (hk : qx_kd t = 18) (hs : st.length ≤ 4) : Rs L xs (d + 1) 289 2 ls (.ref t :: st) M x = (Rs L xs d 212 0 [some (.ref t)] [] M 0).bind (qx_kn L xs (d + 1) 289 2 5 212 ls st x) := by
  have h1 : qx_act L xs (qx_rt 289) (2, .invokevirtual 312, 5, 212, 1, 1926) ls (.ref t :: st) M = if 1 ≤ (.ref t :: st).length ∧ st.length ≤ 4 then some (.inr (.inr (.inr (212, [.ref t], st)))) else none := rfl
  rw [if_pos ⟨by simp [List.length_cons]; try omega, hs⟩] at h1
  have h2 := qx_kd_obj (k := 8) (by decide) hk
  exact Rs_call c289_2 h1 (by rw [show qx_args 212 [.ref t] = decide (qx_sh t = some (.inl 8)) from rfl]; exact decide_eq_true h2)
theorem c289_5 : qx_code 289 5 = some (5, .iconst (-1), 6, 0, 0, 0) := by decide +kernel
theorem s289_5 {L : Nat} {xs : Nat → Int32} {d x : Nat} {M : qxM} {st : List Value} {ls : qxL} : Rs L xs (d) 289 5 ls st M x = Rs L xs (d) 289 6 ls (.int (-1) :: st) M x := Rs_next c289_5 rfl
theorem c289_6 : qx_code 289 6 = some (6, .ixor, 7, 0, 0, 0) := by decide +kernel
theorem s289_6 {L : Nat} {xs : Nat → Int32} {d x : Nat} {M : qxM} {st : List Value} {ls : qxL} {z y : Int32} : Rs L xs (d) 289 6 ls (.int y :: .int z :: st) M x = Rs L xs (d) 289 7 ls (.int (z ^^^ y) :: st) M x := Rs_next c289_6 rfl
theorem c289_7 : qx_code 289 7 = some (7, .iand, 8, 0, 0, 0) := by decide +kernel
theorem s289_7 {L : Nat} {xs : Nat → Int32} {d x : Nat} {M : qxM} {st : List Value} {ls : qxL} {z y : Int32} : Rs L xs (d) 289 7 ls (.int y :: .int z :: st) M x = Rs L xs (d) 289 8 ls (.int (z &&& y) :: st) M x := Rs_next c289_7 rfl
theorem c289_8 : qx_code 289 8 = some (8, .ifCond .ne 7, 11, 15, 0, 0) := by decide +kernel
theorem s289_8 {L : Nat} {xs : Nat → Int32} {d x : Nat} {M : qxM} {st : List Value} {ls : qxL} {z : Int32} : Rs L xs (d) 289 8 ls (.int z :: st) M x = if z = 0 then Rs L xs (d) 289 11 ls st M x else Rs L xs (d) 289 15 ls st M x := Rs_ite c289_8 rfl
theorem c289_11 : qx_code 289 11 = some (11, .iconst 1, 12, 0, 0, 0) := by decide +kernel
theorem s289_11 {L : Nat} {xs : Nat → Int32} {d x : Nat} {M : qxM} {st : List Value} {ls : qxL} : Rs L xs (d) 289 11 ls st M x = Rs L xs (d) 289 12 ls (.int (nI 1) :: st) M x := Rs_next c289_11 rfl
theorem c289_12 : qx_code 289 12 = some (12, .goto 4, 15, 16, 0, 0) := by decide +kernel
theorem s289_12 {L : Nat} {xs : Nat → Int32} {d x : Nat} {M : qxM} {st : List Value} {ls : qxL} : Rs L xs (d) 289 12 ls st M x = Rs L xs (d) 289 16 ls st M x := Rs_next c289_12 rfl
theorem c289_15 : qx_code 289 15 = some (15, .iconst 0, 16, 0, 0, 0) := by decide +kernel
theorem s289_15 {L : Nat} {xs : Nat → Int32} {d x : Nat} {M : qxM} {st : List Value} {ls : qxL} : Rs L xs (d) 289 15 ls st M x = Rs L xs (d) 289 16 ls (.int (nI 0) :: st) M x := Rs_next c289_15 rfl
theorem c289_16 : qx_code 289 16 = some (16, .ireturn, 17, 0, 0, 0) := by decide +kernel
theorem s289_16 {L : Nat} {xs : Nat → Int32} {d x : Nat} {M : qxM} {ls : qxL} {z : Int32} (h01 : z = 0 ∨ z = 1) : Rs L xs (d) 289 16 ls [.int z] M x = some (.inl (some (.int z)), M, x) := Rs_retw h01 c289_16 rfl
theorem c290_0 : qx_code 290 0 = some (0, .aload_n 0, 1, 0, 0, 0) := by decide +kernel
theorem s290_0 {L : Nat} {xs : Nat → Int32} {d x : Nat} {M : qxM} {st : List Value} {a1 a2 : Option Value} {z : Nat} : Rs L xs (d) 290 0 [some (.ref z), a1, a2] st M x = Rs L xs (d) 290 1 [some (.ref z), a1, a2] (.ref z :: st) M x := Rs_next c290_0 rfl
theorem c290_1 : qx_code 290 1 = some (1, .aload_n 0, 2, 0, 0, 0) := by decide +kernel
theorem s290_1 {L : Nat} {xs : Nat → Int32} {d x : Nat} {M : qxM} {st : List Value} {a1 a2 : Option Value} {z : Nat} : Rs L xs (d) 290 1 [some (.ref z), a1, a2] st M x = Rs L xs (d) 290 2 [some (.ref z), a1, a2] (.ref z :: st) M x := Rs_next c290_1 rfl
theorem c290_2 : qx_code 290 2 = some (2, .getfield 187, 5, 8, 6, 1551) := by decide +kernel
theorem s290_2 {L : Nat} {xs : Nat → Int32} {d x : Nat} {M : qxM} {st : List Value} {ls : qxL} {t : Nat} (hk : qx_kd t = 18) : Rs L xs (d) 290 2 ls (.ref t :: st) M x = Rs L xs (d) 290 5 ls (.int (M.1 t 6) :: st) M x := Rs_when (qx_kd_obj (k := 8) (by decide) hk) c290_2 rfl
theorem c290_5 : qx_code 290 5 = some (5, .aload_n 0, 6, 0, 0, 0) := by decide +kernel
theorem s290_5 {L : Nat} {xs : Nat → Int32} {d x : Nat} {M : qxM} {st : List Value} {a1 a2 : Option Value} {z : Nat} : Rs L xs (d) 290 5 [some (.ref z), a1, a2] st M x = Rs L xs (d) 290 6 [some (.ref z), a1, a2] (.ref z :: st) M x := Rs_next c290_5 rfl
theorem c290_6 : qx_code 290 6 = some (6, .iload_n 1, 7, 0, 0, 0) := by decide +kernel
theorem s290_6 {L : Nat} {xs : Nat → Int32} {d x : Nat} {M : qxM} {st : List Value} {a0 a2 : Option Value} {z : Int32} : Rs L xs (d) 290 6 [a0, some (.int z), a2] st M x = Rs L xs (d) 290 7 [a0, some (.int z), a2] (.int z :: st) M x := Rs_next c290_6 rfl
theorem c290_7 : qx_code 290 7 = some (7, .invokevirtual 342, 10, 289, 2, 1994) := by decide +kernel
theorem s290_7 {L : Nat} {xs : Nat → Int32} {d x : Nat} {M : qxM} {st : List Value} {ls : qxL} {t : Nat} {z0 : Int32} (hk : qx_kd t = 18) (hs : st.length ≤ 4) : Rs L xs (d + 1) 290 7 ls (.int z0 :: .ref t :: st) M x = (Rs L xs d 289 0 [some (.ref t), some (.int z0)] [] M 0).bind (qx_kn L xs (d + 1) 290 7 10 289 ls st x) := by
  have h1 : qx_act L xs (qx_rt 290) (7, .invokevirtual 342, 10, 289, 2, 1994) ls (.int z0 :: .ref t :: st) M = if 2 ≤ (.int z0 :: .ref t :: st).length ∧ st.length ≤ 4 then some (.inr (.inr (.inr (289, [.ref t, .int z0], st)))) else none := rfl
  rw [if_pos ⟨by simp [List.length_cons]; try omega, hs⟩] at h1
  have h2 := qx_kd_obj (k := 8) (by decide) hk
  exact Rs_call c290_7 h1 (by rw [show qx_args 289 [.ref t, .int z0] = decide (qx_sh t = some (.inl 8)) from rfl]; exact decide_eq_true h2)
theorem c290_10 : qx_code 290 10 = some (10, .invokevirtual 216, 13, 181, 3, 1773) := by decide +kernel
theorem s290_10 {L : Nat} {xs : Nat → Int32} {d x : Nat} {M : qxM} {st : List Value} {ls : qxL} {t : Nat} {z0 : Int32} {z1 : Int32} (hk : qx_kd t = 18) (hs : st.length ≤ 4) : Rs L xs (d + 1) 290 10 ls (.int z1 :: .int z0 :: .ref t :: st) M x = (Rs L xs d 181 0 [some (.ref t), some (.int z0), some (.int z1)] [] M 0).bind (qx_kn L xs (d + 1) 290 10 13 181 ls st x) := by
  have h1 : qx_act L xs (qx_rt 290) (10, .invokevirtual 216, 13, 181, 3, 1773) ls (.int z1 :: .int z0 :: .ref t :: st) M = if 3 ≤ (.int z1 :: .int z0 :: .ref t :: st).length ∧ st.length ≤ 4 then some (.inr (.inr (.inr (181, [.ref t, .int z0, .int z1], st)))) else none := rfl
  rw [if_pos ⟨by simp [List.length_cons]; try omega, hs⟩] at h1
  have h2 := qx_kd_obj (k := 8) (by decide) hk
  exact Rs_call c290_10 h1 (by rw [show qx_args 181 [.ref t, .int z0, .int z1] = decide (qx_sh t = some (.inl 8)) from rfl]; exact decide_eq_true h2)
theorem c290_13 : qx_code 290 13 = some (13, .ifCond .ne 5, 16, 18, 0, 0) := by decide +kernel
theorem s290_13 {L : Nat} {xs : Nat → Int32} {d x : Nat} {M : qxM} {st : List Value} {ls : qxL} {z : Int32} : Rs L xs (d) 290 13 ls (.int z :: st) M x = if z = 0 then Rs L xs (d) 290 16 ls st M x else Rs L xs (d) 290 18 ls st M x := Rs_ite c290_13 rfl
theorem c290_16 : qx_code 290 16 = some (16, .iconst 0, 17, 0, 0, 0) := by decide +kernel
theorem s290_16 {L : Nat} {xs : Nat → Int32} {d x : Nat} {M : qxM} {st : List Value} {ls : qxL} : Rs L xs (d) 290 16 ls st M x = Rs L xs (d) 290 17 ls (.int (nI 0) :: st) M x := Rs_next c290_16 rfl
theorem c290_17 : qx_code 290 17 = some (17, .ireturn, 18, 0, 0, 0) := by decide +kernel
theorem s290_17 {L : Nat} {xs : Nat → Int32} {d x : Nat} {M : qxM} {ls : qxL} {z : Int32} : Rs L xs (d) 290 17 ls [.int z] M x = some (.inl (some (.int z)), M, x) := Rs_ret c290_17 rfl
theorem c290_18 : qx_code 290 18 = some (18, .aload_n 0, 19, 0, 0, 0) := by decide +kernel
theorem s290_18 {L : Nat} {xs : Nat → Int32} {d x : Nat} {M : qxM} {st : List Value} {a1 a2 : Option Value} {z : Nat} : Rs L xs (d) 290 18 [some (.ref z), a1, a2] st M x = Rs L xs (d) 290 19 [some (.ref z), a1, a2] (.ref z :: st) M x := Rs_next c290_18 rfl
theorem c290_19 : qx_code 290 19 = some (19, .invokevirtual 318, 22, 271, 1, 1922) := by decide +kernel
theorem s290_19 {L : Nat} {xs : Nat → Int32} {d x : Nat} {M : qxM} {st : List Value} {ls : qxL} {t : Nat} (hk : qx_kd t = 18) (hs : st.length ≤ 4) : Rs L xs (d + 1) 290 19 ls (.ref t :: st) M x = (Rs L xs d 271 0 [some (.ref t), none] [] M 0).bind (qx_kn L xs (d + 1) 290 19 22 271 ls st x) := by
  have h1 : qx_act L xs (qx_rt 290) (19, .invokevirtual 318, 22, 271, 1, 1922) ls (.ref t :: st) M = if 1 ≤ (.ref t :: st).length ∧ st.length ≤ 4 then some (.inr (.inr (.inr (271, [.ref t], st)))) else none := rfl
  rw [if_pos ⟨by simp [List.length_cons]; try omega, hs⟩] at h1
  have h2 := qx_kd_obj (k := 8) (by decide) hk
  exact Rs_call c290_19 h1 (by rw [show qx_args 271 [.ref t] = decide (qx_sh t = some (.inl 8)) from rfl]; exact decide_eq_true h2)
theorem c290_22 : qx_code 290 22 = some (22, .istore_n 2, 23, 0, 0, 0) := by decide +kernel
theorem s290_22i {L : Nat} {xs : Nat → Int32} {d x : Nat} {M : qxM} {st : List Value} {a0 a2 : Option Value} {z : Int32} {y : Int32} : Rs L xs (d) 290 22 [a0, some (.int y), a2] (.int z :: st) M x = Rs L xs (d) 290 23 [a0, some (.int y), some (.int z)] st M x := Rs_next c290_22 rfl
theorem s290_22r {L : Nat} {xs : Nat → Int32} {d x : Nat} {M : qxM} {st : List Value} {a0 a2 : Option Value} {z : Int32} {y : Nat} : Rs L xs (d) 290 22 [a0, some (.ref y), a2] (.int z :: st) M x = Rs L xs (d) 290 23 [a0, some (.ref y), some (.int z)] st M x := Rs_next c290_22 rfl
theorem s290_22n {L : Nat} {xs : Nat → Int32} {d x : Nat} {M : qxM} {st : List Value} {a0 a2 : Option Value} {z : Int32} : Rs L xs (d) 290 22 [a0, none, a2] (.int z :: st) M x = Rs L xs (d) 290 23 [a0, none, some (.int z)] st M x := Rs_next c290_22 rfl
theorem c290_23 : qx_code 290 23 = some (23, .aload_n 0, 24, 0, 0, 0) := by decide +kernel
theorem s290_23 {L : Nat} {xs : Nat → Int32} {d x : Nat} {M : qxM} {st : List Value} {a1 a2 : Option Value} {z : Nat} : Rs L xs (d) 290 23 [some (.ref z), a1, a2] st M x = Rs L xs (d) 290 24 [some (.ref z), a1, a2] (.ref z :: st) M x := Rs_next c290_23 rfl
theorem c290_24 : qx_code 290 24 = some (24, .aload_n 0, 25, 0, 0, 0) := by decide +kernel
theorem s290_24 {L : Nat} {xs : Nat → Int32} {d x : Nat} {M : qxM} {st : List Value} {a1 a2 : Option Value} {z : Nat} : Rs L xs (d) 290 24 [some (.ref z), a1, a2] st M x = Rs L xs (d) 290 25 [some (.ref z), a1, a2] (.ref z :: st) M x := Rs_next c290_24 rfl
theorem c290_25 : qx_code 290 25 = some (25, .invokevirtual 312, 28, 212, 1, 1926) := by decide +kernel
theorem s290_25 {L : Nat} {xs : Nat → Int32} {d x : Nat} {M : qxM} {st : List Value} {ls : qxL} {t : Nat} (hk : qx_kd t = 18) (hs : st.length ≤ 4) : Rs L xs (d + 1) 290 25 ls (.ref t :: st) M x = (Rs L xs d 212 0 [some (.ref t)] [] M 0).bind (qx_kn L xs (d + 1) 290 25 28 212 ls st x) := by
  have h1 : qx_act L xs (qx_rt 290) (25, .invokevirtual 312, 28, 212, 1, 1926) ls (.ref t :: st) M = if 1 ≤ (.ref t :: st).length ∧ st.length ≤ 4 then some (.inr (.inr (.inr (212, [.ref t], st)))) else none := rfl
  rw [if_pos ⟨by simp [List.length_cons]; try omega, hs⟩] at h1
  have h2 := qx_kd_obj (k := 8) (by decide) hk
  exact Rs_call c290_25 h1 (by rw [show qx_args 212 [.ref t] = decide (qx_sh t = some (.inl 8)) from rfl]; exact decide_eq_true h2)
theorem c290_28 : qx_code 290 28 = some (28, .iload_n 1, 29, 0, 0, 0) := by decide +kernel
theorem s290_28 {L : Nat} {xs : Nat → Int32} {d x : Nat} {M : qxM} {st : List Value} {a0 a2 : Option Value} {z : Int32} : Rs L xs (d) 290 28 [a0, some (.int z), a2] st M x = Rs L xs (d) 290 29 [a0, some (.int z), a2] (.int z :: st) M x := Rs_next c290_28 rfl
theorem c290_29 : qx_code 290 29 = some (29, .iconst (-1), 30, 0, 0, 0) := by decide +kernel
theorem s290_29 {L : Nat} {xs : Nat → Int32} {d x : Nat} {M : qxM} {st : List Value} {ls : qxL} : Rs L xs (d) 290 29 ls st M x = Rs L xs (d) 290 30 ls (.int (-1) :: st) M x := Rs_next c290_29 rfl
theorem c290_30 : qx_code 290 30 = some (30, .ixor, 31, 0, 0, 0) := by decide +kernel
theorem s290_30 {L : Nat} {xs : Nat → Int32} {d x : Nat} {M : qxM} {st : List Value} {ls : qxL} {z y : Int32} : Rs L xs (d) 290 30 ls (.int y :: .int z :: st) M x = Rs L xs (d) 290 31 ls (.int (z ^^^ y) :: st) M x := Rs_next c290_30 rfl
theorem c290_31 : qx_code 290 31 = some (31, .iand, 32, 0, 0, 0) := by decide +kernel
theorem s290_31 {L : Nat} {xs : Nat → Int32} {d x : Nat} {M : qxM} {st : List Value} {ls : qxL} {z y : Int32} : Rs L xs (d) 290 31 ls (.int y :: .int z :: st) M x = Rs L xs (d) 290 32 ls (.int (z &&& y) :: st) M x := Rs_next c290_31 rfl
theorem c290_32 : qx_code 290 32 = some (32, .invokevirtual 339, 35, 287, 2, 1998) := by decide +kernel
theorem s290_32 {L : Nat} {xs : Nat → Int32} {d x : Nat} {M : qxM} {st : List Value} {ls : qxL} {t : Nat} {z0 : Int32} (hk : qx_kd t = 18) (hs : st.length ≤ 4) : Rs L xs (d + 1) 290 32 ls (.int z0 :: .ref t :: st) M x = (Rs L xs d 287 0 [some (.ref t), some (.int z0), none, none, none] [] M 0).bind (qx_kn L xs (d + 1) 290 32 35 287 ls st x) := by
  have h1 : qx_act L xs (qx_rt 290) (32, .invokevirtual 339, 35, 287, 2, 1998) ls (.int z0 :: .ref t :: st) M = if 2 ≤ (.int z0 :: .ref t :: st).length ∧ st.length ≤ 4 then some (.inr (.inr (.inr (287, [.ref t, .int z0], st)))) else none := rfl
  rw [if_pos ⟨by simp [List.length_cons]; try omega, hs⟩] at h1
  have h2 := qx_kd_obj (k := 8) (by decide) hk
  exact Rs_call c290_32 h1 (by rw [show qx_args 287 [.ref t, .int z0] = decide (qx_sh t = some (.inl 8)) from rfl]; exact decide_eq_true h2)
theorem c290_35 : qx_code 290 35 = some (35, .ireturn, 36, 0, 0, 0) := by decide +kernel
theorem s290_35 {L : Nat} {xs : Nat → Int32} {d x : Nat} {M : qxM} {ls : qxL} {z : Int32} : Rs L xs (d) 290 35 ls [.int z] M x = some (.inl (some (.int z)), M, x) := Rs_ret c290_35 rfl
theorem c291_0 : qx_code 291 0 = some (0, .aload_n 0, 1, 0, 0, 0) := by decide +kernel
theorem s291_0 {L : Nat} {xs : Nat → Int32} {d x : Nat} {M : qxM} {st : List Value} {a1 a2 : Option Value} {z : Nat} : Rs L xs (d) 291 0 [some (.ref z), a1, a2] st M x = Rs L xs (d) 291 1 [some (.ref z), a1, a2] (.ref z :: st) M x := Rs_next c291_0 rfl
theorem c291_1 : qx_code 291 1 = some (1, .aload_n 0, 2, 0, 0, 0) := by decide +kernel
theorem s291_1 {L : Nat} {xs : Nat → Int32} {d x : Nat} {M : qxM} {st : List Value} {a1 a2 : Option Value} {z : Nat} : Rs L xs (d) 291 1 [some (.ref z), a1, a2] st M x = Rs L xs (d) 291 2 [some (.ref z), a1, a2] (.ref z :: st) M x := Rs_next c291_1 rfl
theorem c291_2 : qx_code 291 2 = some (2, .getfield 187, 5, 8, 6, 1551) := by decide +kernel
theorem s291_2 {L : Nat} {xs : Nat → Int32} {d x : Nat} {M : qxM} {st : List Value} {ls : qxL} {t : Nat} (hk : qx_kd t = 18) : Rs L xs (d) 291 2 ls (.ref t :: st) M x = Rs L xs (d) 291 5 ls (.int (M.1 t 6) :: st) M x := Rs_when (qx_kd_obj (k := 8) (by decide) hk) c291_2 rfl
theorem c291_5 : qx_code 291 5 = some (5, .aload_n 0, 6, 0, 0, 0) := by decide +kernel
theorem s291_5 {L : Nat} {xs : Nat → Int32} {d x : Nat} {M : qxM} {st : List Value} {a1 a2 : Option Value} {z : Nat} : Rs L xs (d) 291 5 [some (.ref z), a1, a2] st M x = Rs L xs (d) 291 6 [some (.ref z), a1, a2] (.ref z :: st) M x := Rs_next c291_5 rfl
theorem c291_6 : qx_code 291 6 = some (6, .iload_n 1, 7, 0, 0, 0) := by decide +kernel
theorem s291_6 {L : Nat} {xs : Nat → Int32} {d x : Nat} {M : qxM} {st : List Value} {a0 a2 : Option Value} {z : Int32} : Rs L xs (d) 291 6 [a0, some (.int z), a2] st M x = Rs L xs (d) 291 7 [a0, some (.int z), a2] (.int z :: st) M x := Rs_next c291_6 rfl
theorem c291_7 : qx_code 291 7 = some (7, .invokevirtual 342, 10, 289, 2, 1994) := by decide +kernel
theorem s291_7 {L : Nat} {xs : Nat → Int32} {d x : Nat} {M : qxM} {st : List Value} {ls : qxL} {t : Nat} {z0 : Int32} (hk : qx_kd t = 18) (hs : st.length ≤ 4) : Rs L xs (d + 1) 291 7 ls (.int z0 :: .ref t :: st) M x = (Rs L xs d 289 0 [some (.ref t), some (.int z0)] [] M 0).bind (qx_kn L xs (d + 1) 291 7 10 289 ls st x) := by
  have h1 : qx_act L xs (qx_rt 291) (7, .invokevirtual 342, 10, 289, 2, 1994) ls (.int z0 :: .ref t :: st) M = if 2 ≤ (.int z0 :: .ref t :: st).length ∧ st.length ≤ 4 then some (.inr (.inr (.inr (289, [.ref t, .int z0], st)))) else none := rfl
  rw [if_pos ⟨by simp [List.length_cons]; try omega, hs⟩] at h1
  have h2 := qx_kd_obj (k := 8) (by decide) hk
  exact Rs_call c291_7 h1 (by rw [show qx_args 289 [.ref t, .int z0] = decide (qx_sh t = some (.inl 8)) from rfl]; exact decide_eq_true h2)
theorem c291_10 : qx_code 291 10 = some (10, .invokevirtual 216, 13, 181, 3, 1773) := by decide +kernel
theorem s291_10 {L : Nat} {xs : Nat → Int32} {d x : Nat} {M : qxM} {st : List Value} {ls : qxL} {t : Nat} {z0 : Int32} {z1 : Int32} (hk : qx_kd t = 18) (hs : st.length ≤ 4) : Rs L xs (d + 1) 291 10 ls (.int z1 :: .int z0 :: .ref t :: st) M x = (Rs L xs d 181 0 [some (.ref t), some (.int z0), some (.int z1)] [] M 0).bind (qx_kn L xs (d + 1) 291 10 13 181 ls st x) := by
  have h1 : qx_act L xs (qx_rt 291) (10, .invokevirtual 216, 13, 181, 3, 1773) ls (.int z1 :: .int z0 :: .ref t :: st) M = if 3 ≤ (.int z1 :: .int z0 :: .ref t :: st).length ∧ st.length ≤ 4 then some (.inr (.inr (.inr (181, [.ref t, .int z0, .int z1], st)))) else none := rfl
  rw [if_pos ⟨by simp [List.length_cons]; try omega, hs⟩] at h1
  have h2 := qx_kd_obj (k := 8) (by decide) hk
  exact Rs_call c291_10 h1 (by rw [show qx_args 181 [.ref t, .int z0, .int z1] = decide (qx_sh t = some (.inl 8)) from rfl]; exact decide_eq_true h2)
theorem c291_13 : qx_code 291 13 = some (13, .ifCond .ne 5, 16, 18, 0, 0) := by decide +kernel
theorem s291_13 {L : Nat} {xs : Nat → Int32} {d x : Nat} {M : qxM} {st : List Value} {ls : qxL} {z : Int32} : Rs L xs (d) 291 13 ls (.int z :: st) M x = if z = 0 then Rs L xs (d) 291 16 ls st M x else Rs L xs (d) 291 18 ls st M x := Rs_ite c291_13 rfl
theorem c291_16 : qx_code 291 16 = some (16, .iconst 0, 17, 0, 0, 0) := by decide +kernel
theorem s291_16 {L : Nat} {xs : Nat → Int32} {d x : Nat} {M : qxM} {st : List Value} {ls : qxL} : Rs L xs (d) 291 16 ls st M x = Rs L xs (d) 291 17 ls (.int (nI 0) :: st) M x := Rs_next c291_16 rfl
theorem c291_17 : qx_code 291 17 = some (17, .ireturn, 18, 0, 0, 0) := by decide +kernel
theorem s291_17 {L : Nat} {xs : Nat → Int32} {d x : Nat} {M : qxM} {ls : qxL} {z : Int32} (h01 : z = 0 ∨ z = 1) : Rs L xs (d) 291 17 ls [.int z] M x = some (.inl (some (.int z)), M, x) := Rs_retw h01 c291_17 rfl
theorem c291_18 : qx_code 291 18 = some (18, .aload_n 0, 19, 0, 0, 0) := by decide +kernel
theorem s291_18 {L : Nat} {xs : Nat → Int32} {d x : Nat} {M : qxM} {st : List Value} {a1 a2 : Option Value} {z : Nat} : Rs L xs (d) 291 18 [some (.ref z), a1, a2] st M x = Rs L xs (d) 291 19 [some (.ref z), a1, a2] (.ref z :: st) M x := Rs_next c291_18 rfl
theorem c291_19 : qx_code 291 19 = some (19, .invokevirtual 318, 22, 271, 1, 1922) := by decide +kernel
theorem s291_19 {L : Nat} {xs : Nat → Int32} {d x : Nat} {M : qxM} {st : List Value} {ls : qxL} {t : Nat} (hk : qx_kd t = 18) (hs : st.length ≤ 4) : Rs L xs (d + 1) 291 19 ls (.ref t :: st) M x = (Rs L xs d 271 0 [some (.ref t), none] [] M 0).bind (qx_kn L xs (d + 1) 291 19 22 271 ls st x) := by
  have h1 : qx_act L xs (qx_rt 291) (19, .invokevirtual 318, 22, 271, 1, 1922) ls (.ref t :: st) M = if 1 ≤ (.ref t :: st).length ∧ st.length ≤ 4 then some (.inr (.inr (.inr (271, [.ref t], st)))) else none := rfl
  rw [if_pos ⟨by simp [List.length_cons]; try omega, hs⟩] at h1
  have h2 := qx_kd_obj (k := 8) (by decide) hk
  exact Rs_call c291_19 h1 (by rw [show qx_args 271 [.ref t] = decide (qx_sh t = some (.inl 8)) from rfl]; exact decide_eq_true h2)
theorem c291_22 : qx_code 291 22 = some (22, .istore_n 2, 23, 0, 0, 0) := by decide +kernel
theorem s291_22i {L : Nat} {xs : Nat → Int32} {d x : Nat} {M : qxM} {st : List Value} {a0 a2 : Option Value} {z : Int32} {y : Int32} : Rs L xs (d) 291 22 [a0, some (.int y), a2] (.int z :: st) M x = Rs L xs (d) 291 23 [a0, some (.int y), some (.int z)] st M x := Rs_next c291_22 rfl
theorem s291_22r {L : Nat} {xs : Nat → Int32} {d x : Nat} {M : qxM} {st : List Value} {a0 a2 : Option Value} {z : Int32} {y : Nat} : Rs L xs (d) 291 22 [a0, some (.ref y), a2] (.int z :: st) M x = Rs L xs (d) 291 23 [a0, some (.ref y), some (.int z)] st M x := Rs_next c291_22 rfl
theorem s291_22n {L : Nat} {xs : Nat → Int32} {d x : Nat} {M : qxM} {st : List Value} {a0 a2 : Option Value} {z : Int32} : Rs L xs (d) 291 22 [a0, none, a2] (.int z :: st) M x = Rs L xs (d) 291 23 [a0, none, some (.int z)] st M x := Rs_next c291_22 rfl
theorem c291_23 : qx_code 291 23 = some (23, .aload_n 0, 24, 0, 0, 0) := by decide +kernel
theorem s291_23 {L : Nat} {xs : Nat → Int32} {d x : Nat} {M : qxM} {st : List Value} {a1 a2 : Option Value} {z : Nat} : Rs L xs (d) 291 23 [some (.ref z), a1, a2] st M x = Rs L xs (d) 291 24 [some (.ref z), a1, a2] (.ref z :: st) M x := Rs_next c291_23 rfl
theorem c291_24 : qx_code 291 24 = some (24, .iload_n 1, 25, 0, 0, 0) := by decide +kernel
theorem s291_24 {L : Nat} {xs : Nat → Int32} {d x : Nat} {M : qxM} {st : List Value} {a0 a2 : Option Value} {z : Int32} : Rs L xs (d) 291 24 [a0, some (.int z), a2] st M x = Rs L xs (d) 291 25 [a0, some (.int z), a2] (.int z :: st) M x := Rs_next c291_24 rfl
theorem c291_25 : qx_code 291 25 = some (25, .invokevirtual 345, 28, 288, 2, 2006) := by decide +kernel
theorem s291_25 {L : Nat} {xs : Nat → Int32} {d x : Nat} {M : qxM} {st : List Value} {ls : qxL} {t : Nat} {z0 : Int32} (hk : qx_kd t = 18) (hs : st.length ≤ 4) : Rs L xs (d + 1) 291 25 ls (.int z0 :: .ref t :: st) M x = (Rs L xs d 288 0 [some (.ref t), some (.int z0)] [] M 0).bind (qx_kn L xs (d + 1) 291 25 28 288 ls st x) := by
  have h1 : qx_act L xs (qx_rt 291) (25, .invokevirtual 345, 28, 288, 2, 2006) ls (.int z0 :: .ref t :: st) M = if 2 ≤ (.int z0 :: .ref t :: st).length ∧ st.length ≤ 4 then some (.inr (.inr (.inr (288, [.ref t, .int z0], st)))) else none := rfl
  rw [if_pos ⟨by simp [List.length_cons]; try omega, hs⟩] at h1
  have h2 := qx_kd_obj (k := 8) (by decide) hk
  exact Rs_call c291_25 h1 (by rw [show qx_args 288 [.ref t, .int z0] = decide (qx_sh t = some (.inl 8)) from rfl]; exact decide_eq_true h2)
theorem c291_28 : qx_code 291 28 = some (28, .ireturn, 29, 0, 0, 0) := by decide +kernel
theorem s291_28 {L : Nat} {xs : Nat → Int32} {d x : Nat} {M : qxM} {ls : qxL} {z : Int32} (h01 : z = 0 ∨ z = 1) : Rs L xs (d) 291 28 ls [.int z] M x = some (.inl (some (.int z)), M, x) := Rs_retw h01 c291_28 rfl
theorem c292_0 : qx_code 292 0 = some (0, .aload_n 0, 1, 0, 0, 0) := by decide +kernel
theorem s292_0 {L : Nat} {xs : Nat → Int32} {d x : Nat} {M : qxM} {st : List Value} {a1 a2 a3 : Option Value} {z : Nat} : Rs L xs (d) 292 0 [some (.ref z), a1, a2, a3] st M x = Rs L xs (d) 292 1 [some (.ref z), a1, a2, a3] (.ref z :: st) M x := Rs_next c292_0 rfl
theorem c292_1 : qx_code 292 1 = some (1, .invokevirtual 306, 4, 263, 1, 1882) := by decide +kernel
theorem s292_1 {L : Nat} {xs : Nat → Int32} {d x : Nat} {M : qxM} {st : List Value} {ls : qxL} {t : Nat} (hk : qx_kd t = 18) (hs : st.length ≤ 4) : Rs L xs (d + 1) 292 1 ls (.ref t :: st) M x = (Rs L xs d 263 0 [some (.ref t)] [] M 0).bind (qx_kn L xs (d + 1) 292 1 4 263 ls st x) := by
  have h1 : qx_act L xs (qx_rt 292) (1, .invokevirtual 306, 4, 263, 1, 1882) ls (.ref t :: st) M = if 1 ≤ (.ref t :: st).length ∧ st.length ≤ 4 then some (.inr (.inr (.inr (263, [.ref t], st)))) else none := rfl
  rw [if_pos ⟨by simp [List.length_cons]; try omega, hs⟩] at h1
  have h2 := qx_kd_obj (k := 8) (by decide) hk
  exact Rs_call c292_1 h1 (by rw [show qx_args 263 [.ref t] = decide (qx_sh t = some (.inl 8)) from rfl]; exact decide_eq_true h2)
theorem c292_4 : qx_code 292 4 = some (4, .ifCond .ne 5, 7, 9, 0, 0) := by decide +kernel
theorem s292_4 {L : Nat} {xs : Nat → Int32} {d x : Nat} {M : qxM} {st : List Value} {ls : qxL} {z : Int32} : Rs L xs (d) 292 4 ls (.int z :: st) M x = if z = 0 then Rs L xs (d) 292 7 ls st M x else Rs L xs (d) 292 9 ls st M x := Rs_ite c292_4 rfl
theorem c292_7 : qx_code 292 7 = some (7, .iconst 0, 8, 0, 0, 0) := by decide +kernel
theorem s292_7 {L : Nat} {xs : Nat → Int32} {d x : Nat} {M : qxM} {st : List Value} {ls : qxL} : Rs L xs (d) 292 7 ls st M x = Rs L xs (d) 292 8 ls (.int (nI 0) :: st) M x := Rs_next c292_7 rfl
theorem c292_8 : qx_code 292 8 = some (8, .ireturn, 9, 0, 0, 0) := by decide +kernel
theorem s292_8 {L : Nat} {xs : Nat → Int32} {d x : Nat} {M : qxM} {ls : qxL} {z : Int32} : Rs L xs (d) 292 8 ls [.int z] M x = some (.inl (some (.int z)), M, x) := Rs_ret c292_8 rfl
theorem c292_9 : qx_code 292 9 = some (9, .aload_n 0, 10, 0, 0, 0) := by decide +kernel
theorem s292_9 {L : Nat} {xs : Nat → Int32} {d x : Nat} {M : qxM} {st : List Value} {a1 a2 a3 : Option Value} {z : Nat} : Rs L xs (d) 292 9 [some (.ref z), a1, a2, a3] st M x = Rs L xs (d) 292 10 [some (.ref z), a1, a2, a3] (.ref z :: st) M x := Rs_next c292_9 rfl
theorem c292_10 : qx_code 292 10 = some (10, .invokevirtual 318, 13, 271, 1, 1922) := by decide +kernel
theorem s292_10 {L : Nat} {xs : Nat → Int32} {d x : Nat} {M : qxM} {st : List Value} {ls : qxL} {t : Nat} (hk : qx_kd t = 18) (hs : st.length ≤ 4) : Rs L xs (d + 1) 292 10 ls (.ref t :: st) M x = (Rs L xs d 271 0 [some (.ref t), none] [] M 0).bind (qx_kn L xs (d + 1) 292 10 13 271 ls st x) := by
  have h1 : qx_act L xs (qx_rt 292) (10, .invokevirtual 318, 13, 271, 1, 1922) ls (.ref t :: st) M = if 1 ≤ (.ref t :: st).length ∧ st.length ≤ 4 then some (.inr (.inr (.inr (271, [.ref t], st)))) else none := rfl
  rw [if_pos ⟨by simp [List.length_cons]; try omega, hs⟩] at h1
  have h2 := qx_kd_obj (k := 8) (by decide) hk
  exact Rs_call c292_10 h1 (by rw [show qx_args 271 [.ref t] = decide (qx_sh t = some (.inl 8)) from rfl]; exact decide_eq_true h2)
theorem c292_13 : qx_code 292 13 = some (13, .istore_n 1, 14, 0, 0, 0) := by decide +kernel
theorem s292_13i {L : Nat} {xs : Nat → Int32} {d x : Nat} {M : qxM} {st : List Value} {a1 a2 a3 : Option Value} {z : Int32} {y : Int32} : Rs L xs (d) 292 13 [some (.int y), a1, a2, a3] (.int z :: st) M x = Rs L xs (d) 292 14 [some (.int y), some (.int z), a2, a3] st M x := Rs_next c292_13 rfl
theorem s292_13r {L : Nat} {xs : Nat → Int32} {d x : Nat} {M : qxM} {st : List Value} {a1 a2 a3 : Option Value} {z : Int32} {y : Nat} : Rs L xs (d) 292 13 [some (.ref y), a1, a2, a3] (.int z :: st) M x = Rs L xs (d) 292 14 [some (.ref y), some (.int z), a2, a3] st M x := Rs_next c292_13 rfl
theorem s292_13n {L : Nat} {xs : Nat → Int32} {d x : Nat} {M : qxM} {st : List Value} {a1 a2 a3 : Option Value} {z : Int32} : Rs L xs (d) 292 13 [none, a1, a2, a3] (.int z :: st) M x = Rs L xs (d) 292 14 [none, some (.int z), a2, a3] st M x := Rs_next c292_13 rfl
theorem c292_14 : qx_code 292 14 = some (14, .iconst (-1), 15, 0, 0, 0) := by decide +kernel
theorem s292_14 {L : Nat} {xs : Nat → Int32} {d x : Nat} {M : qxM} {st : List Value} {ls : qxL} : Rs L xs (d) 292 14 ls st M x = Rs L xs (d) 292 15 ls (.int (-1) :: st) M x := Rs_next c292_14 rfl
theorem c292_15 : qx_code 292 15 = some (15, .istore_n 2, 16, 0, 0, 0) := by decide +kernel
theorem s292_15i {L : Nat} {xs : Nat → Int32} {d x : Nat} {M : qxM} {st : List Value} {a0 a2 a3 : Option Value} {z : Int32} {y : Int32} : Rs L xs (d) 292 15 [a0, some (.int y), a2, a3] (.int z :: st) M x = Rs L xs (d) 292 16 [a0, some (.int y), some (.int z), a3] st M x := Rs_next c292_15 rfl
theorem s292_15r {L : Nat} {xs : Nat → Int32} {d x : Nat} {M : qxM} {st : List Value} {a0 a2 a3 : Option Value} {z : Int32} {y : Nat} : Rs L xs (d) 292 15 [a0, some (.ref y), a2, a3] (.int z :: st) M x = Rs L xs (d) 292 16 [a0, some (.ref y), some (.int z), a3] st M x := Rs_next c292_15 rfl
theorem s292_15n {L : Nat} {xs : Nat → Int32} {d x : Nat} {M : qxM} {st : List Value} {a0 a2 a3 : Option Value} {z : Int32} : Rs L xs (d) 292 15 [a0, none, a2, a3] (.int z :: st) M x = Rs L xs (d) 292 16 [a0, none, some (.int z), a3] st M x := Rs_next c292_15 rfl
theorem c292_16 : qx_code 292 16 = some (16, .iconst 0, 17, 0, 0, 0) := by decide +kernel
theorem s292_16 {L : Nat} {xs : Nat → Int32} {d x : Nat} {M : qxM} {st : List Value} {ls : qxL} : Rs L xs (d) 292 16 ls st M x = Rs L xs (d) 292 17 ls (.int (nI 0) :: st) M x := Rs_next c292_16 rfl
theorem c292_17 : qx_code 292 17 = some (17, .istore_n 3, 18, 0, 0, 0) := by decide +kernel
theorem s292_17i {L : Nat} {xs : Nat → Int32} {d x : Nat} {M : qxM} {st : List Value} {a0 a1 a3 : Option Value} {z : Int32} {y : Int32} : Rs L xs (d) 292 17 [a0, a1, some (.int y), a3] (.int z :: st) M x = Rs L xs (d) 292 18 [a0, a1, some (.int y), some (.int z)] st M x := Rs_next c292_17 rfl
theorem s292_17r {L : Nat} {xs : Nat → Int32} {d x : Nat} {M : qxM} {st : List Value} {a0 a1 a3 : Option Value} {z : Int32} {y : Nat} : Rs L xs (d) 292 17 [a0, a1, some (.ref y), a3] (.int z :: st) M x = Rs L xs (d) 292 18 [a0, a1, some (.ref y), some (.int z)] st M x := Rs_next c292_17 rfl
theorem s292_17n {L : Nat} {xs : Nat → Int32} {d x : Nat} {M : qxM} {st : List Value} {a0 a1 a3 : Option Value} {z : Int32} : Rs L xs (d) 292 17 [a0, a1, none, a3] (.int z :: st) M x = Rs L xs (d) 292 18 [a0, a1, none, some (.int z)] st M x := Rs_next c292_17 rfl
theorem c292_18 : qx_code 292 18 = some (18, .iload_n 3, 19, 0, 0, 0) := by decide +kernel
theorem s292_18 {L : Nat} {xs : Nat → Int32} {d x : Nat} {M : qxM} {st : List Value} {a0 a1 a2 : Option Value} {z : Int32} : Rs L xs (d) 292 18 [a0, a1, a2, some (.int z)] st M x = Rs L xs (d) 292 19 [a0, a1, a2, some (.int z)] (.int z :: st) M x := Rs_next c292_18 rfl
theorem c292_19 : qx_code 292 19 = some (19, .aload_n 0, 20, 0, 0, 0) := by decide +kernel
theorem s292_19 {L : Nat} {xs : Nat → Int32} {d x : Nat} {M : qxM} {st : List Value} {a1 a2 a3 : Option Value} {z : Nat} : Rs L xs (d) 292 19 [some (.ref z), a1, a2, a3] st M x = Rs L xs (d) 292 20 [some (.ref z), a1, a2, a3] (.ref z :: st) M x := Rs_next c292_19 rfl
theorem c292_20 : qx_code 292 20 = some (20, .invokevirtual 312, 23, 212, 1, 1926) := by decide +kernel
theorem s292_20 {L : Nat} {xs : Nat → Int32} {d x : Nat} {M : qxM} {st : List Value} {ls : qxL} {t : Nat} (hk : qx_kd t = 18) (hs : st.length ≤ 4) : Rs L xs (d + 1) 292 20 ls (.ref t :: st) M x = (Rs L xs d 212 0 [some (.ref t)] [] M 0).bind (qx_kn L xs (d + 1) 292 20 23 212 ls st x) := by
  have h1 : qx_act L xs (qx_rt 292) (20, .invokevirtual 312, 23, 212, 1, 1926) ls (.ref t :: st) M = if 1 ≤ (.ref t :: st).length ∧ st.length ≤ 4 then some (.inr (.inr (.inr (212, [.ref t], st)))) else none := rfl
  rw [if_pos ⟨by simp [List.length_cons]; try omega, hs⟩] at h1
  have h2 := qx_kd_obj (k := 8) (by decide) hk
  exact Rs_call c292_20 h1 (by rw [show qx_args 212 [.ref t] = decide (qx_sh t = some (.inl 8)) from rfl]; exact decide_eq_true h2)
theorem c292_23 : qx_code 292 23 = some (23, .if_icmp .gt 35, 26, 58, 0, 0) := by decide +kernel
theorem s292_23 {L : Nat} {xs : Nat → Int32} {d x : Nat} {M : qxM} {st : List Value} {ls : qxL} {z y : Int32} : Rs L xs (d) 292 23 ls (.int y :: .int z :: st) M x = if y < z then Rs L xs (d) 292 58 ls st M x else Rs L xs (d) 292 26 ls st M x := Rs_ite c292_23 rfl
theorem c292_26 : qx_code 292 26 = some (26, .iload_n 2, 27, 0, 0, 0) := by decide +kernel
theorem s292_26 {L : Nat} {xs : Nat → Int32} {d x : Nat} {M : qxM} {st : List Value} {a0 a1 a3 : Option Value} {z : Int32} : Rs L xs (d) 292 26 [a0, a1, some (.int z), a3] st M x = Rs L xs (d) 292 27 [a0, a1, some (.int z), a3] (.int z :: st) M x := Rs_next c292_26 rfl
theorem c292_27 : qx_code 292 27 = some (27, .iconst (-1), 28, 0, 0, 0) := by decide +kernel
theorem s292_27 {L : Nat} {xs : Nat → Int32} {d x : Nat} {M : qxM} {st : List Value} {ls : qxL} : Rs L xs (d) 292 27 ls st M x = Rs L xs (d) 292 28 ls (.int (-1) :: st) M x := Rs_next c292_27 rfl
theorem c292_28 : qx_code 292 28 = some (28, .if_icmp .eq 14, 31, 42, 0, 0) := by decide +kernel
theorem s292_28 {L : Nat} {xs : Nat → Int32} {d x : Nat} {M : qxM} {st : List Value} {ls : qxL} {z y : Int32} : Rs L xs (d) 292 28 ls (.int y :: .int z :: st) M x = if z = y then Rs L xs (d) 292 42 ls st M x else Rs L xs (d) 292 31 ls st M x := Rs_ite c292_28 rfl
theorem c292_31 : qx_code 292 31 = some (31, .iload_n 3, 32, 0, 0, 0) := by decide +kernel
theorem s292_31 {L : Nat} {xs : Nat → Int32} {d x : Nat} {M : qxM} {st : List Value} {a0 a1 a2 : Option Value} {z : Int32} : Rs L xs (d) 292 31 [a0, a1, a2, some (.int z)] st M x = Rs L xs (d) 292 32 [a0, a1, a2, some (.int z)] (.int z :: st) M x := Rs_next c292_31 rfl
theorem c292_32 : qx_code 292 32 = some (32, .invokestatic 194, 35, 209, 1, 1788) := by decide +kernel
theorem s292_32 {L : Nat} {xs : Nat → Int32} {d x : Nat} {M : qxM} {st : List Value} {ls : qxL} {z0 : Int32} (hs : st.length ≤ 4) : Rs L xs (d + 1) 292 32 ls (.int z0 :: st) M x = (Rs L xs d 209 0 [some (.int z0), none, none] [] M 0).bind (qx_kn L xs (d + 1) 292 32 35 209 ls st x) := by
  have h1 : qx_act L xs (qx_rt 292) (32, .invokestatic 194, 35, 209, 1, 1788) ls (.int z0 :: st) M = if 1 ≤ (.int z0 :: st).length ∧ st.length ≤ 4 then some (.inr (.inr (.inr (209, [.int z0], st)))) else none := rfl
  rw [if_pos ⟨by simp [List.length_cons]; try omega, hs⟩] at h1
  exact Rs_call c292_32 h1 rfl
theorem c292_35 : qx_code 292 35 = some (35, .iload_n 2, 36, 0, 0, 0) := by decide +kernel
theorem s292_35 {L : Nat} {xs : Nat → Int32} {d x : Nat} {M : qxM} {st : List Value} {a0 a1 a3 : Option Value} {z : Int32} : Rs L xs (d) 292 35 [a0, a1, some (.int z), a3] st M x = Rs L xs (d) 292 36 [a0, a1, some (.int z), a3] (.int z :: st) M x := Rs_next c292_35 rfl
theorem c292_36 : qx_code 292 36 = some (36, .invokestatic 194, 39, 209, 1, 1788) := by decide +kernel
theorem s292_36 {L : Nat} {xs : Nat → Int32} {d x : Nat} {M : qxM} {st : List Value} {ls : qxL} {z0 : Int32} (hs : st.length ≤ 4) : Rs L xs (d + 1) 292 36 ls (.int z0 :: st) M x = (Rs L xs d 209 0 [some (.int z0), none, none] [] M 0).bind (qx_kn L xs (d + 1) 292 36 39 209 ls st x) := by
  have h1 : qx_act L xs (qx_rt 292) (36, .invokestatic 194, 39, 209, 1, 1788) ls (.int z0 :: st) M = if 1 ≤ (.int z0 :: st).length ∧ st.length ≤ 4 then some (.inr (.inr (.inr (209, [.int z0], st)))) else none := rfl
  rw [if_pos ⟨by simp [List.length_cons]; try omega, hs⟩] at h1
  exact Rs_call c292_36 h1 rfl
theorem c292_39 : qx_code 292 39 = some (39, .if_icmp .ge 13, 42, 52, 0, 0) := by decide +kernel
theorem s292_39 {L : Nat} {xs : Nat → Int32} {d x : Nat} {M : qxM} {st : List Value} {ls : qxL} {z y : Int32} : Rs L xs (d) 292 39 ls (.int y :: .int z :: st) M x = if y ≤ z then Rs L xs (d) 292 52 ls st M x else Rs L xs (d) 292 42 ls st M x := Rs_ite c292_39 rfl
theorem c292_42 : qx_code 292 42 = some (42, .aload_n 0, 43, 0, 0, 0) := by decide +kernel
theorem s292_42 {L : Nat} {xs : Nat → Int32} {d x : Nat} {M : qxM} {st : List Value} {a1 a2 a3 : Option Value} {z : Nat} : Rs L xs (d) 292 42 [some (.ref z), a1, a2, a3] st M x = Rs L xs (d) 292 43 [some (.ref z), a1, a2, a3] (.ref z :: st) M x := Rs_next c292_42 rfl
theorem c292_43 : qx_code 292 43 = some (43, .iload_n 3, 44, 0, 0, 0) := by decide +kernel
theorem s292_43 {L : Nat} {xs : Nat → Int32} {d x : Nat} {M : qxM} {st : List Value} {a0 a1 a2 : Option Value} {z : Int32} : Rs L xs (d) 292 43 [a0, a1, a2, some (.int z)] st M x = Rs L xs (d) 292 44 [a0, a1, a2, some (.int z)] (.int z :: st) M x := Rs_next c292_43 rfl
theorem c292_44 : qx_code 292 44 = some (44, .invokevirtual 345, 47, 288, 2, 2006) := by decide +kernel
theorem s292_44 {L : Nat} {xs : Nat → Int32} {d x : Nat} {M : qxM} {st : List Value} {ls : qxL} {t : Nat} {z0 : Int32} (hk : qx_kd t = 18) (hs : st.length ≤ 4) : Rs L xs (d + 1) 292 44 ls (.int z0 :: .ref t :: st) M x = (Rs L xs d 288 0 [some (.ref t), some (.int z0)] [] M 0).bind (qx_kn L xs (d + 1) 292 44 47 288 ls st x) := by
  have h1 : qx_act L xs (qx_rt 292) (44, .invokevirtual 345, 47, 288, 2, 2006) ls (.int z0 :: .ref t :: st) M = if 2 ≤ (.int z0 :: .ref t :: st).length ∧ st.length ≤ 4 then some (.inr (.inr (.inr (288, [.ref t, .int z0], st)))) else none := rfl
  rw [if_pos ⟨by simp [List.length_cons]; try omega, hs⟩] at h1
  have h2 := qx_kd_obj (k := 8) (by decide) hk
  exact Rs_call c292_44 h1 (by rw [show qx_args 288 [.ref t, .int z0] = decide (qx_sh t = some (.inl 8)) from rfl]; exact decide_eq_true h2)
theorem c292_47 : qx_code 292 47 = some (47, .ifCond .eq 5, 50, 52, 0, 0) := by decide +kernel
theorem s292_47 {L : Nat} {xs : Nat → Int32} {d x : Nat} {M : qxM} {st : List Value} {ls : qxL} {z : Int32} : Rs L xs (d) 292 47 ls (.int z :: st) M x = if z = 0 then Rs L xs (d) 292 52 ls st M x else Rs L xs (d) 292 50 ls st M x := Rs_ite c292_47 rfl
theorem c292_50 : qx_code 292 50 = some (50, .iload_n 3, 51, 0, 0, 0) := by decide +kernel
theorem s292_50 {L : Nat} {xs : Nat → Int32} {d x : Nat} {M : qxM} {st : List Value} {a0 a1 a2 : Option Value} {z : Int32} : Rs L xs (d) 292 50 [a0, a1, a2, some (.int z)] st M x = Rs L xs (d) 292 51 [a0, a1, a2, some (.int z)] (.int z :: st) M x := Rs_next c292_50 rfl
theorem c292_51 : qx_code 292 51 = some (51, .istore_n 2, 52, 0, 0, 0) := by decide +kernel
theorem s292_51i {L : Nat} {xs : Nat → Int32} {d x : Nat} {M : qxM} {st : List Value} {a0 a2 a3 : Option Value} {z : Int32} {y : Int32} : Rs L xs (d) 292 51 [a0, some (.int y), a2, a3] (.int z :: st) M x = Rs L xs (d) 292 52 [a0, some (.int y), some (.int z), a3] st M x := Rs_next c292_51 rfl
theorem s292_51r {L : Nat} {xs : Nat → Int32} {d x : Nat} {M : qxM} {st : List Value} {a0 a2 a3 : Option Value} {z : Int32} {y : Nat} : Rs L xs (d) 292 51 [a0, some (.ref y), a2, a3] (.int z :: st) M x = Rs L xs (d) 292 52 [a0, some (.ref y), some (.int z), a3] st M x := Rs_next c292_51 rfl
theorem s292_51n {L : Nat} {xs : Nat → Int32} {d x : Nat} {M : qxM} {st : List Value} {a0 a2 a3 : Option Value} {z : Int32} : Rs L xs (d) 292 51 [a0, none, a2, a3] (.int z :: st) M x = Rs L xs (d) 292 52 [a0, none, some (.int z), a3] st M x := Rs_next c292_51 rfl
theorem c292_52 : qx_code 292 52 = some (52, .iinc 3 1, 55, 0, 0, 0) := by decide +kernel
theorem s292_52i {L : Nat} {xs : Nat → Int32} {d x : Nat} {M : qxM} {st : List Value} {a0 a1 : Option Value} {z : Int32} {y : Int32} : Rs L xs (d) 292 52 [a0, a1, some (.int y), some (.int z)] st M x = Rs L xs (d) 292 55 [a0, a1, some (.int y), some (.int (z + (nI 1)))] st M x := Rs_next c292_52 rfl
theorem s292_52r {L : Nat} {xs : Nat → Int32} {d x : Nat} {M : qxM} {st : List Value} {a0 a1 : Option Value} {z : Int32} {y : Nat} : Rs L xs (d) 292 52 [a0, a1, some (.ref y), some (.int z)] st M x = Rs L xs (d) 292 55 [a0, a1, some (.ref y), some (.int (z + (nI 1)))] st M x := Rs_next c292_52 rfl
theorem s292_52n {L : Nat} {xs : Nat → Int32} {d x : Nat} {M : qxM} {st : List Value} {a0 a1 : Option Value} {z : Int32} : Rs L xs (d) 292 52 [a0, a1, none, some (.int z)] st M x = Rs L xs (d) 292 55 [a0, a1, none, some (.int (z + (nI 1)))] st M x := Rs_next c292_52 rfl
theorem c292_55 : qx_code 292 55 = some (55, .goto (-37), 58, 18, 0, 0) := by decide +kernel
theorem s292_55 {L : Nat} {xs : Nat → Int32} {d x : Nat} {M : qxM} {st : List Value} {ls : qxL} : Rs L xs (d) 292 55 ls st M x = Rs L xs (d) 292 18 ls st M x := Rs_next c292_55 rfl
theorem c292_58 : qx_code 292 58 = some (58, .iload_n 2, 59, 0, 0, 0) := by decide +kernel
theorem s292_58 {L : Nat} {xs : Nat → Int32} {d x : Nat} {M : qxM} {st : List Value} {a0 a1 a3 : Option Value} {z : Int32} : Rs L xs (d) 292 58 [a0, a1, some (.int z), a3] st M x = Rs L xs (d) 292 59 [a0, a1, some (.int z), a3] (.int z :: st) M x := Rs_next c292_58 rfl
theorem c292_59 : qx_code 292 59 = some (59, .ireturn, 60, 0, 0, 0) := by decide +kernel
theorem s292_59 {L : Nat} {xs : Nat → Int32} {d x : Nat} {M : qxM} {ls : qxL} {z : Int32} : Rs L xs (d) 292 59 ls [.int z] M x = some (.inl (some (.int z)), M, x) := Rs_ret c292_59 rfl
theorem c293_0 : qx_code 293 0 = some (0, .iload_n 1, 1, 0, 0, 0) := by decide +kernel
theorem s293_0 {L : Nat} {xs : Nat → Int32} {d x : Nat} {M : qxM} {st : List Value} {a0 a2 : Option Value} {z : Int32} : Rs L xs (d) 293 0 [a0, some (.int z), a2] st M x = Rs L xs (d) 293 1 [a0, some (.int z), a2] (.int z :: st) M x := Rs_next c293_0 rfl
theorem c293_1 : qx_code 293 1 = some (1, .iload_n 2, 2, 0, 0, 0) := by decide +kernel
theorem s293_1 {L : Nat} {xs : Nat → Int32} {d x : Nat} {M : qxM} {st : List Value} {a0 a1 : Option Value} {z : Int32} : Rs L xs (d) 293 1 [a0, a1, some (.int z)] st M x = Rs L xs (d) 293 2 [a0, a1, some (.int z)] (.int z :: st) M x := Rs_next c293_1 rfl
theorem c293_2 : qx_code 293 2 = some (2, .if_icmp .eq 51, 5, 53, 0, 0) := by decide +kernel
theorem s293_2 {L : Nat} {xs : Nat → Int32} {d x : Nat} {M : qxM} {st : List Value} {ls : qxL} {z y : Int32} : Rs L xs (d) 293 2 ls (.int y :: .int z :: st) M x = if z = y then Rs L xs (d) 293 53 ls st M x else Rs L xs (d) 293 5 ls st M x := Rs_ite c293_2 rfl
theorem c293_5 : qx_code 293 5 = some (5, .aload_n 0, 6, 0, 0, 0) := by decide +kernel
theorem s293_5 {L : Nat} {xs : Nat → Int32} {d x : Nat} {M : qxM} {st : List Value} {a1 a2 : Option Value} {z : Nat} : Rs L xs (d) 293 5 [some (.ref z), a1, a2] st M x = Rs L xs (d) 293 6 [some (.ref z), a1, a2] (.ref z :: st) M x := Rs_next c293_5 rfl
theorem c293_6 : qx_code 293 6 = some (6, .iload_n 1, 7, 0, 0, 0) := by decide +kernel
theorem s293_6 {L : Nat} {xs : Nat → Int32} {d x : Nat} {M : qxM} {st : List Value} {a0 a2 : Option Value} {z : Int32} : Rs L xs (d) 293 6 [a0, some (.int z), a2] st M x = Rs L xs (d) 293 7 [a0, some (.int z), a2] (.int z :: st) M x := Rs_next c293_6 rfl
theorem c293_7 : qx_code 293 7 = some (7, .iload_n 2, 8, 0, 0, 0) := by decide +kernel
theorem s293_7 {L : Nat} {xs : Nat → Int32} {d x : Nat} {M : qxM} {st : List Value} {a0 a1 : Option Value} {z : Int32} : Rs L xs (d) 293 7 [a0, a1, some (.int z)] st M x = Rs L xs (d) 293 8 [a0, a1, some (.int z)] (.int z :: st) M x := Rs_next c293_7 rfl
theorem c293_8 : qx_code 293 8 = some (8, .invokevirtual 136, 11, 219, 3, 1741) := by decide +kernel
theorem s293_8 {L : Nat} {xs : Nat → Int32} {d x : Nat} {M : qxM} {st : List Value} {ls : qxL} {t : Nat} {z0 : Int32} {z1 : Int32} (hk : qx_kd t = 18) (hs : st.length ≤ 4) : Rs L xs (d + 1) 293 8 ls (.int z1 :: .int z0 :: .ref t :: st) M x = (Rs L xs d 219 0 [some (.ref t), some (.int z0), some (.int z1)] [] M 0).bind (qx_kn L xs (d + 1) 293 8 11 219 ls st x) := by
  have h1 : qx_act L xs (qx_rt 293) (8, .invokevirtual 136, 11, 219, 3, 1741) ls (.int z1 :: .int z0 :: .ref t :: st) M = if 3 ≤ (.int z1 :: .int z0 :: .ref t :: st).length ∧ st.length ≤ 4 then some (.inr (.inr (.inr (219, [.ref t, .int z0, .int z1], st)))) else none := rfl
  rw [if_pos ⟨by simp [List.length_cons]; try omega, hs⟩] at h1
  have h2 := qx_kd_obj (k := 8) (by decide) hk
  exact Rs_call c293_8 h1 (by rw [show qx_args 219 [.ref t, .int z0, .int z1] = decide (qx_sh t = some (.inl 8)) from rfl]; exact decide_eq_true h2)
theorem c293_11 : qx_code 293 11 = some (11, .ifCond .eq 42, 14, 53, 0, 0) := by decide +kernel
theorem s293_11 {L : Nat} {xs : Nat → Int32} {d x : Nat} {M : qxM} {st : List Value} {ls : qxL} {z : Int32} : Rs L xs (d) 293 11 ls (.int z :: st) M x = if z = 0 then Rs L xs (d) 293 53 ls st M x else Rs L xs (d) 293 14 ls st M x := Rs_ite c293_11 rfl
theorem c293_14 : qx_code 293 14 = some (14, .aload_n 0, 15, 0, 0, 0) := by decide +kernel
theorem s293_14 {L : Nat} {xs : Nat → Int32} {d x : Nat} {M : qxM} {st : List Value} {a1 a2 : Option Value} {z : Nat} : Rs L xs (d) 293 14 [some (.ref z), a1, a2] st M x = Rs L xs (d) 293 15 [some (.ref z), a1, a2] (.ref z :: st) M x := Rs_next c293_14 rfl
theorem c293_15 : qx_code 293 15 = some (15, .getfield 34, 18, 8, 17, 1562) := by decide +kernel
theorem s293_15 {L : Nat} {xs : Nat → Int32} {d x : Nat} {M : qxM} {st : List Value} {ls : qxL} {t : Nat} (hk : qx_kd t = 18) : Rs L xs (d) 293 15 ls (.ref t :: st) M x = Rs L xs (d) 293 18 ls (.ref (t + 7) :: st) M x := Rs_when (qx_kd_obj (k := 8) (by decide) hk) c293_15 rfl
theorem c293_18 : qx_code 293 18 = some (18, .aload_n 0, 19, 0, 0, 0) := by decide +kernel
theorem s293_18 {L : Nat} {xs : Nat → Int32} {d x : Nat} {M : qxM} {st : List Value} {a1 a2 : Option Value} {z : Nat} : Rs L xs (d) 293 18 [some (.ref z), a1, a2] st M x = Rs L xs (d) 293 19 [some (.ref z), a1, a2] (.ref z :: st) M x := Rs_next c293_18 rfl
theorem c293_19 : qx_code 293 19 = some (19, .invokevirtual 312, 22, 212, 1, 1926) := by decide +kernel
theorem s293_19 {L : Nat} {xs : Nat → Int32} {d x : Nat} {M : qxM} {st : List Value} {ls : qxL} {t : Nat} (hk : qx_kd t = 18) (hs : st.length ≤ 4) : Rs L xs (d + 1) 293 19 ls (.ref t :: st) M x = (Rs L xs d 212 0 [some (.ref t)] [] M 0).bind (qx_kn L xs (d + 1) 293 19 22 212 ls st x) := by
  have h1 : qx_act L xs (qx_rt 293) (19, .invokevirtual 312, 22, 212, 1, 1926) ls (.ref t :: st) M = if 1 ≤ (.ref t :: st).length ∧ st.length ≤ 4 then some (.inr (.inr (.inr (212, [.ref t], st)))) else none := rfl
  rw [if_pos ⟨by simp [List.length_cons]; try omega, hs⟩] at h1
  have h2 := qx_kd_obj (k := 8) (by decide) hk
  exact Rs_call c293_19 h1 (by rw [show qx_args 212 [.ref t] = decide (qx_sh t = some (.inl 8)) from rfl]; exact decide_eq_true h2)
theorem c293_22 : qx_code 293 22 = some (22, .iconst 1, 23, 0, 0, 0) := by decide +kernel
theorem s293_22 {L : Nat} {xs : Nat → Int32} {d x : Nat} {M : qxM} {st : List Value} {ls : qxL} : Rs L xs (d) 293 22 ls st M x = Rs L xs (d) 293 23 ls (.int (nI 1) :: st) M x := Rs_next c293_22 rfl
theorem c293_23 : qx_code 293 23 = some (23, .iload_n 1, 24, 0, 0, 0) := by decide +kernel
theorem s293_23 {L : Nat} {xs : Nat → Int32} {d x : Nat} {M : qxM} {st : List Value} {a0 a2 : Option Value} {z : Int32} : Rs L xs (d) 293 23 [a0, some (.int z), a2] st M x = Rs L xs (d) 293 24 [a0, some (.int z), a2] (.int z :: st) M x := Rs_next c293_23 rfl
theorem c293_24 : qx_code 293 24 = some (24, .ishl, 25, 0, 0, 0) := by decide +kernel
theorem s293_24 {L : Nat} {xs : Nat → Int32} {d x : Nat} {M : qxM} {st : List Value} {ls : qxL} {z y : Int32} : Rs L xs (d) 293 24 ls (.int y :: .int z :: st) M x = Rs L xs (d) 293 25 ls (.int (z <<< (y &&& 31)) :: st) M x := Rs_next c293_24 rfl
theorem c293_25 : qx_code 293 25 = some (25, .iconst (-1), 26, 0, 0, 0) := by decide +kernel
theorem s293_25 {L : Nat} {xs : Nat → Int32} {d x : Nat} {M : qxM} {st : List Value} {ls : qxL} : Rs L xs (d) 293 25 ls st M x = Rs L xs (d) 293 26 ls (.int (-1) :: st) M x := Rs_next c293_25 rfl
theorem c293_26 : qx_code 293 26 = some (26, .ixor, 27, 0, 0, 0) := by decide +kernel
theorem s293_26 {L : Nat} {xs : Nat → Int32} {d x : Nat} {M : qxM} {st : List Value} {ls : qxL} {z y : Int32} : Rs L xs (d) 293 26 ls (.int y :: .int z :: st) M x = Rs L xs (d) 293 27 ls (.int (z ^^^ y) :: st) M x := Rs_next c293_26 rfl
theorem c293_27 : qx_code 293 27 = some (27, .iand, 28, 0, 0, 0) := by decide +kernel
theorem s293_27 {L : Nat} {xs : Nat → Int32} {d x : Nat} {M : qxM} {st : List Value} {ls : qxL} {z y : Int32} : Rs L xs (d) 293 27 ls (.int y :: .int z :: st) M x = Rs L xs (d) 293 28 ls (.int (z &&& y) :: st) M x := Rs_next c293_27 rfl
theorem c293_28 : qx_code 293 28 = some (28, .iconst 1, 29, 0, 0, 0) := by decide +kernel
theorem s293_28 {L : Nat} {xs : Nat → Int32} {d x : Nat} {M : qxM} {st : List Value} {ls : qxL} : Rs L xs (d) 293 28 ls st M x = Rs L xs (d) 293 29 ls (.int (nI 1) :: st) M x := Rs_next c293_28 rfl
theorem c293_29 : qx_code 293 29 = some (29, .iload_n 2, 30, 0, 0, 0) := by decide +kernel
theorem s293_29 {L : Nat} {xs : Nat → Int32} {d x : Nat} {M : qxM} {st : List Value} {a0 a1 : Option Value} {z : Int32} : Rs L xs (d) 293 29 [a0, a1, some (.int z)] st M x = Rs L xs (d) 293 30 [a0, a1, some (.int z)] (.int z :: st) M x := Rs_next c293_29 rfl
theorem c293_30 : qx_code 293 30 = some (30, .ishl, 31, 0, 0, 0) := by decide +kernel
theorem s293_30 {L : Nat} {xs : Nat → Int32} {d x : Nat} {M : qxM} {st : List Value} {ls : qxL} {z y : Int32} : Rs L xs (d) 293 30 ls (.int y :: .int z :: st) M x = Rs L xs (d) 293 31 ls (.int (z <<< (y &&& 31)) :: st) M x := Rs_next c293_30 rfl
theorem c293_31 : qx_code 293 31 = some (31, .iconst (-1), 32, 0, 0, 0) := by decide +kernel
theorem s293_31 {L : Nat} {xs : Nat → Int32} {d x : Nat} {M : qxM} {st : List Value} {ls : qxL} : Rs L xs (d) 293 31 ls st M x = Rs L xs (d) 293 32 ls (.int (-1) :: st) M x := Rs_next c293_31 rfl
theorem c293_32 : qx_code 293 32 = some (32, .ixor, 33, 0, 0, 0) := by decide +kernel
theorem s293_32 {L : Nat} {xs : Nat → Int32} {d x : Nat} {M : qxM} {st : List Value} {ls : qxL} {z y : Int32} : Rs L xs (d) 293 32 ls (.int y :: .int z :: st) M x = Rs L xs (d) 293 33 ls (.int (z ^^^ y) :: st) M x := Rs_next c293_32 rfl
theorem c293_33 : qx_code 293 33 = some (33, .iand, 34, 0, 0, 0) := by decide +kernel
theorem s293_33 {L : Nat} {xs : Nat → Int32} {d x : Nat} {M : qxM} {st : List Value} {ls : qxL} {z y : Int32} : Rs L xs (d) 293 33 ls (.int y :: .int z :: st) M x = Rs L xs (d) 293 34 ls (.int (z &&& y) :: st) M x := Rs_next c293_33 rfl
theorem c293_34 : qx_code 293 34 = some (34, .baload, 35, 0, 0, 0) := by decide +kernel
theorem s293_34 {L : Nat} {xs : Nat → Int32} {d x : Nat} {M : qxM} {st : List Value} {ls : qxL} {t : Nat} {j : Int32} (hk : qx_kd t = 1) (hj : qx_ib j (qx_ln t) = true) : Rs L xs (d) 293 34 ls (.int j :: .ref t :: st) M x = Rs L xs (d) 293 35 ls (.int (M.1 t j.toNatClampNeg) :: st) M x := by
  have h1 := qx_kd_row (k := 1) (by decide) hk
  exact Rs_unless (qx_ib_not hj) c293_34 (by unfold qx_act; dsimp only; rw [h1]; rfl)
theorem s293_34z {L : Nat} {xs : Nat → Int32} {d x : Nat} {M : qxM} {st : List Value} {ls : qxL} {t : Nat} {j : Int32} (hk : qx_kd t = 2) (hj : qx_ib j (qx_ln t) = true) : Rs L xs (d) 293 34 ls (.int j :: .ref t :: st) M x = Rs L xs (d) 293 35 ls (.int (M.1 t j.toNatClampNeg) :: st) M x := by
  have h1 := qx_kd_row (k := 2) (by decide) hk
  exact Rs_unless (qx_ib_not hj) c293_34 (by unfold qx_act; dsimp only; rw [h1]; rfl)
theorem c293_35 : qx_code 293 35 = some (35, .iconst 1, 36, 0, 0, 0) := by decide +kernel
theorem s293_35 {L : Nat} {xs : Nat → Int32} {d x : Nat} {M : qxM} {st : List Value} {ls : qxL} : Rs L xs (d) 293 35 ls st M x = Rs L xs (d) 293 36 ls (.int (nI 1) :: st) M x := Rs_next c293_35 rfl
theorem c293_36 : qx_code 293 36 = some (36, .iadd, 37, 0, 0, 0) := by decide +kernel
theorem s293_36 {L : Nat} {xs : Nat → Int32} {d x : Nat} {M : qxM} {st : List Value} {ls : qxL} {z y : Int32} : Rs L xs (d) 293 36 ls (.int y :: .int z :: st) M x = Rs L xs (d) 293 37 ls (.int (z + y) :: st) M x := Rs_next c293_36 rfl
theorem c293_37 : qx_code 293 37 = some (37, .aload_n 0, 38, 0, 0, 0) := by decide +kernel
theorem s293_37 {L : Nat} {xs : Nat → Int32} {d x : Nat} {M : qxM} {st : List Value} {a1 a2 : Option Value} {z : Nat} : Rs L xs (d) 293 37 [some (.ref z), a1, a2] st M x = Rs L xs (d) 293 38 [some (.ref z), a1, a2] (.ref z :: st) M x := Rs_next c293_37 rfl
theorem c293_38 : qx_code 293 38 = some (38, .getfield 34, 41, 8, 17, 1562) := by decide +kernel
theorem s293_38 {L : Nat} {xs : Nat → Int32} {d x : Nat} {M : qxM} {st : List Value} {ls : qxL} {t : Nat} (hk : qx_kd t = 18) : Rs L xs (d) 293 38 ls (.ref t :: st) M x = Rs L xs (d) 293 41 ls (.ref (t + 7) :: st) M x := Rs_when (qx_kd_obj (k := 8) (by decide) hk) c293_38 rfl
theorem c293_41 : qx_code 293 41 = some (41, .aload_n 0, 42, 0, 0, 0) := by decide +kernel
theorem s293_41 {L : Nat} {xs : Nat → Int32} {d x : Nat} {M : qxM} {st : List Value} {a1 a2 : Option Value} {z : Nat} : Rs L xs (d) 293 41 [some (.ref z), a1, a2] st M x = Rs L xs (d) 293 42 [some (.ref z), a1, a2] (.ref z :: st) M x := Rs_next c293_41 rfl
theorem c293_42 : qx_code 293 42 = some (42, .invokevirtual 312, 45, 212, 1, 1926) := by decide +kernel
theorem s293_42 {L : Nat} {xs : Nat → Int32} {d x : Nat} {M : qxM} {st : List Value} {ls : qxL} {t : Nat} (hk : qx_kd t = 18) (hs : st.length ≤ 4) : Rs L xs (d + 1) 293 42 ls (.ref t :: st) M x = (Rs L xs d 212 0 [some (.ref t)] [] M 0).bind (qx_kn L xs (d + 1) 293 42 45 212 ls st x) := by
  have h1 : qx_act L xs (qx_rt 293) (42, .invokevirtual 312, 45, 212, 1, 1926) ls (.ref t :: st) M = if 1 ≤ (.ref t :: st).length ∧ st.length ≤ 4 then some (.inr (.inr (.inr (212, [.ref t], st)))) else none := rfl
  rw [if_pos ⟨by simp [List.length_cons]; try omega, hs⟩] at h1
  have h2 := qx_kd_obj (k := 8) (by decide) hk
  exact Rs_call c293_42 h1 (by rw [show qx_args 212 [.ref t] = decide (qx_sh t = some (.inl 8)) from rfl]; exact decide_eq_true h2)
theorem c293_45 : qx_code 293 45 = some (45, .baload, 46, 0, 0, 0) := by decide +kernel
theorem s293_45 {L : Nat} {xs : Nat → Int32} {d x : Nat} {M : qxM} {st : List Value} {ls : qxL} {t : Nat} {j : Int32} (hk : qx_kd t = 1) (hj : qx_ib j (qx_ln t) = true) : Rs L xs (d) 293 45 ls (.int j :: .ref t :: st) M x = Rs L xs (d) 293 46 ls (.int (M.1 t j.toNatClampNeg) :: st) M x := by
  have h1 := qx_kd_row (k := 1) (by decide) hk
  exact Rs_unless (qx_ib_not hj) c293_45 (by unfold qx_act; dsimp only; rw [h1]; rfl)
theorem s293_45z {L : Nat} {xs : Nat → Int32} {d x : Nat} {M : qxM} {st : List Value} {ls : qxL} {t : Nat} {j : Int32} (hk : qx_kd t = 2) (hj : qx_ib j (qx_ln t) = true) : Rs L xs (d) 293 45 ls (.int j :: .ref t :: st) M x = Rs L xs (d) 293 46 ls (.int (M.1 t j.toNatClampNeg) :: st) M x := by
  have h1 := qx_kd_row (k := 2) (by decide) hk
  exact Rs_unless (qx_ib_not hj) c293_45 (by unfold qx_act; dsimp only; rw [h1]; rfl)
theorem c293_46 : qx_code 293 46 = some (46, .if_icmp .ne 7, 49, 53, 0, 0) := by decide +kernel
theorem s293_46 {L : Nat} {xs : Nat → Int32} {d x : Nat} {M : qxM} {st : List Value} {ls : qxL} {z y : Int32} : Rs L xs (d) 293 46 ls (.int y :: .int z :: st) M x = if z = y then Rs L xs (d) 293 49 ls st M x else Rs L xs (d) 293 53 ls st M x := Rs_ite c293_46 rfl
theorem c293_49 : qx_code 293 49 = some (49, .iconst 1, 50, 0, 0, 0) := by decide +kernel
theorem s293_49 {L : Nat} {xs : Nat → Int32} {d x : Nat} {M : qxM} {st : List Value} {ls : qxL} : Rs L xs (d) 293 49 ls st M x = Rs L xs (d) 293 50 ls (.int (nI 1) :: st) M x := Rs_next c293_49 rfl
theorem c293_50 : qx_code 293 50 = some (50, .goto 4, 53, 54, 0, 0) := by decide +kernel
theorem s293_50 {L : Nat} {xs : Nat → Int32} {d x : Nat} {M : qxM} {st : List Value} {ls : qxL} : Rs L xs (d) 293 50 ls st M x = Rs L xs (d) 293 54 ls st M x := Rs_next c293_50 rfl
theorem c293_53 : qx_code 293 53 = some (53, .iconst 0, 54, 0, 0, 0) := by decide +kernel
theorem s293_53 {L : Nat} {xs : Nat → Int32} {d x : Nat} {M : qxM} {st : List Value} {ls : qxL} : Rs L xs (d) 293 53 ls st M x = Rs L xs (d) 293 54 ls (.int (nI 0) :: st) M x := Rs_next c293_53 rfl
theorem c293_54 : qx_code 293 54 = some (54, .ireturn, 55, 0, 0, 0) := by decide +kernel
theorem s293_54 {L : Nat} {xs : Nat → Int32} {d x : Nat} {M : qxM} {ls : qxL} {z : Int32} (h01 : z = 0 ∨ z = 1) : Rs L xs (d) 293 54 ls [.int z] M x = some (.inl (some (.int z)), M, x) := Rs_retw h01 c293_54 rfl
theorem c294_0 : qx_code 294 0 = some (0, .aload_n 0, 1, 0, 0, 0) := by decide +kernel
theorem s294_0 {L : Nat} {xs : Nat → Int32} {d x : Nat} {M : qxM} {st : List Value} {a1 a2 a3 : Option Value} {z : Nat} : Rs L xs (d) 294 0 [some (.ref z), a1, a2, a3] st M x = Rs L xs (d) 294 1 [some (.ref z), a1, a2, a3] (.ref z :: st) M x := Rs_next c294_0 rfl
theorem c294_1 : qx_code 294 1 = some (1, .iload_n 1, 2, 0, 0, 0) := by decide +kernel
theorem s294_1 {L : Nat} {xs : Nat → Int32} {d x : Nat} {M : qxM} {st : List Value} {a0 a2 a3 : Option Value} {z : Int32} : Rs L xs (d) 294 1 [a0, some (.int z), a2, a3] st M x = Rs L xs (d) 294 2 [a0, some (.int z), a2, a3] (.int z :: st) M x := Rs_next c294_1 rfl
theorem c294_2 : qx_code 294 2 = some (2, .iload_n 2, 3, 0, 0, 0) := by decide +kernel
theorem s294_2 {L : Nat} {xs : Nat → Int32} {d x : Nat} {M : qxM} {st : List Value} {a0 a1 a3 : Option Value} {z : Int32} : Rs L xs (d) 294 2 [a0, a1, some (.int z), a3] st M x = Rs L xs (d) 294 3 [a0, a1, some (.int z), a3] (.int z :: st) M x := Rs_next c294_2 rfl
theorem c294_3 : qx_code 294 3 = some (3, .invokevirtual 229, 6, 227, 3, 1811) := by decide +kernel
theorem s294_3 {L : Nat} {xs : Nat → Int32} {d x : Nat} {M : qxM} {st : List Value} {ls : qxL} {t : Nat} {z0 : Int32} {z1 : Int32} (hk : qx_kd t = 18) (hs : st.length ≤ 4) : Rs L xs (d + 1) 294 3 ls (.int z1 :: .int z0 :: .ref t :: st) M x = (Rs L xs d 227 0 [some (.ref t), some (.int z0), some (.int z1)] [] M 0).bind (qx_kn L xs (d + 1) 294 3 6 227 ls st x) := by
  have h1 : qx_act L xs (qx_rt 294) (3, .invokevirtual 229, 6, 227, 3, 1811) ls (.int z1 :: .int z0 :: .ref t :: st) M = if 3 ≤ (.int z1 :: .int z0 :: .ref t :: st).length ∧ st.length ≤ 4 then some (.inr (.inr (.inr (227, [.ref t, .int z0, .int z1], st)))) else none := rfl
  rw [if_pos ⟨by simp [List.length_cons]; try omega, hs⟩] at h1
  have h2 := qx_kd_obj (k := 8) (by decide) hk
  exact Rs_call c294_3 h1 (by rw [show qx_args 227 [.ref t, .int z0, .int z1] = decide (qx_sh t = some (.inl 8)) from rfl]; exact decide_eq_true h2)
theorem c294_6 : qx_code 294 6 = some (6, .ifCond .ne 5, 9, 11, 0, 0) := by decide +kernel
theorem s294_6 {L : Nat} {xs : Nat → Int32} {d x : Nat} {M : qxM} {st : List Value} {ls : qxL} {z : Int32} : Rs L xs (d) 294 6 ls (.int z :: st) M x = if z = 0 then Rs L xs (d) 294 9 ls st M x else Rs L xs (d) 294 11 ls st M x := Rs_ite c294_6 rfl
theorem c294_9 : qx_code 294 9 = some (9, .iconst 0, 10, 0, 0, 0) := by decide +kernel
theorem s294_9 {L : Nat} {xs : Nat → Int32} {d x : Nat} {M : qxM} {st : List Value} {ls : qxL} : Rs L xs (d) 294 9 ls st M x = Rs L xs (d) 294 10 ls (.int (nI 0) :: st) M x := Rs_next c294_9 rfl
theorem c294_10 : qx_code 294 10 = some (10, .ireturn, 11, 0, 0, 0) := by decide +kernel
theorem s294_10 {L : Nat} {xs : Nat → Int32} {d x : Nat} {M : qxM} {ls : qxL} {z : Int32} (h01 : z = 0 ∨ z = 1) : Rs L xs (d) 294 10 ls [.int z] M x = some (.inl (some (.int z)), M, x) := Rs_retw h01 c294_10 rfl
theorem c294_11 : qx_code 294 11 = some (11, .aload_n 0, 12, 0, 0, 0) := by decide +kernel
theorem s294_11 {L : Nat} {xs : Nat → Int32} {d x : Nat} {M : qxM} {st : List Value} {a1 a2 a3 : Option Value} {z : Nat} : Rs L xs (d) 294 11 [some (.ref z), a1, a2, a3] st M x = Rs L xs (d) 294 12 [some (.ref z), a1, a2, a3] (.ref z :: st) M x := Rs_next c294_11 rfl
theorem c294_12 : qx_code 294 12 = some (12, .invokevirtual 318, 15, 271, 1, 1922) := by decide +kernel
theorem s294_12 {L : Nat} {xs : Nat → Int32} {d x : Nat} {M : qxM} {st : List Value} {ls : qxL} {t : Nat} (hk : qx_kd t = 18) (hs : st.length ≤ 4) : Rs L xs (d + 1) 294 12 ls (.ref t :: st) M x = (Rs L xs d 271 0 [some (.ref t), none] [] M 0).bind (qx_kn L xs (d + 1) 294 12 15 271 ls st x) := by
  have h1 : qx_act L xs (qx_rt 294) (12, .invokevirtual 318, 15, 271, 1, 1922) ls (.ref t :: st) M = if 1 ≤ (.ref t :: st).length ∧ st.length ≤ 4 then some (.inr (.inr (.inr (271, [.ref t], st)))) else none := rfl
  rw [if_pos ⟨by simp [List.length_cons]; try omega, hs⟩] at h1
  have h2 := qx_kd_obj (k := 8) (by decide) hk
  exact Rs_call c294_12 h1 (by rw [show qx_args 271 [.ref t] = decide (qx_sh t = some (.inl 8)) from rfl]; exact decide_eq_true h2)
theorem c294_15 : qx_code 294 15 = some (15, .istore_n 3, 16, 0, 0, 0) := by decide +kernel
theorem s294_15i {L : Nat} {xs : Nat → Int32} {d x : Nat} {M : qxM} {st : List Value} {a0 a1 a3 : Option Value} {z : Int32} {y : Int32} : Rs L xs (d) 294 15 [a0, a1, some (.int y), a3] (.int z :: st) M x = Rs L xs (d) 294 16 [a0, a1, some (.int y), some (.int z)] st M x := Rs_next c294_15 rfl
theorem s294_15r {L : Nat} {xs : Nat → Int32} {d x : Nat} {M : qxM} {st : List Value} {a0 a1 a3 : Option Value} {z : Int32} {y : Nat} : Rs L xs (d) 294 15 [a0, a1, some (.ref y), a3] (.int z :: st) M x = Rs L xs (d) 294 16 [a0, a1, some (.ref y), some (.int z)] st M x := Rs_next c294_15 rfl
theorem s294_15n {L : Nat} {xs : Nat → Int32} {d x : Nat} {M : qxM} {st : List Value} {a0 a1 a3 : Option Value} {z : Int32} : Rs L xs (d) 294 15 [a0, a1, none, a3] (.int z :: st) M x = Rs L xs (d) 294 16 [a0, a1, none, some (.int z)] st M x := Rs_next c294_15 rfl
theorem c294_16 : qx_code 294 16 = some (16, .aload_n 0, 17, 0, 0, 0) := by decide +kernel
theorem s294_16 {L : Nat} {xs : Nat → Int32} {d x : Nat} {M : qxM} {st : List Value} {a1 a2 a3 : Option Value} {z : Nat} : Rs L xs (d) 294 16 [some (.ref z), a1, a2, a3] st M x = Rs L xs (d) 294 17 [some (.ref z), a1, a2, a3] (.ref z :: st) M x := Rs_next c294_16 rfl
theorem c294_17 : qx_code 294 17 = some (17, .iload_n 1, 18, 0, 0, 0) := by decide +kernel
theorem s294_17 {L : Nat} {xs : Nat → Int32} {d x : Nat} {M : qxM} {st : List Value} {a0 a2 a3 : Option Value} {z : Int32} : Rs L xs (d) 294 17 [a0, some (.int z), a2, a3] st M x = Rs L xs (d) 294 18 [a0, some (.int z), a2, a3] (.int z :: st) M x := Rs_next c294_17 rfl
theorem c294_18 : qx_code 294 18 = some (18, .iload_n 2, 19, 0, 0, 0) := by decide +kernel
theorem s294_18 {L : Nat} {xs : Nat → Int32} {d x : Nat} {M : qxM} {st : List Value} {a0 a1 a3 : Option Value} {z : Int32} : Rs L xs (d) 294 18 [a0, a1, some (.int z), a3] st M x = Rs L xs (d) 294 19 [a0, a1, some (.int z), a3] (.int z :: st) M x := Rs_next c294_18 rfl
theorem c294_19 : qx_code 294 19 = some (19, .invokevirtual 348, 22, 293, 3, 2018) := by decide +kernel
theorem s294_19 {L : Nat} {xs : Nat → Int32} {d x : Nat} {M : qxM} {st : List Value} {ls : qxL} {t : Nat} {z0 : Int32} {z1 : Int32} (hk : qx_kd t = 18) (hs : st.length ≤ 4) : Rs L xs (d + 1) 294 19 ls (.int z1 :: .int z0 :: .ref t :: st) M x = (Rs L xs d 293 0 [some (.ref t), some (.int z0), some (.int z1)] [] M 0).bind (qx_kn L xs (d + 1) 294 19 22 293 ls st x) := by
  have h1 : qx_act L xs (qx_rt 294) (19, .invokevirtual 348, 22, 293, 3, 2018) ls (.int z1 :: .int z0 :: .ref t :: st) M = if 3 ≤ (.int z1 :: .int z0 :: .ref t :: st).length ∧ st.length ≤ 4 then some (.inr (.inr (.inr (293, [.ref t, .int z0, .int z1], st)))) else none := rfl
  rw [if_pos ⟨by simp [List.length_cons]; try omega, hs⟩] at h1
  have h2 := qx_kd_obj (k := 8) (by decide) hk
  exact Rs_call c294_19 h1 (by rw [show qx_args 293 [.ref t, .int z0, .int z1] = decide (qx_sh t = some (.inl 8)) from rfl]; exact decide_eq_true h2)
theorem c294_22 : qx_code 294 22 = some (22, .ireturn, 23, 0, 0, 0) := by decide +kernel
theorem s294_22 {L : Nat} {xs : Nat → Int32} {d x : Nat} {M : qxM} {ls : qxL} {z : Int32} (h01 : z = 0 ∨ z = 1) : Rs L xs (d) 294 22 ls [.int z] M x = some (.inl (some (.int z)), M, x) := Rs_retw h01 c294_22 rfl
theorem c295_0 : qx_code 295 0 = some (0, .iload_n 1, 1, 0, 0, 0) := by decide +kernel
theorem s295_0 {L : Nat} {xs : Nat → Int32} {d x : Nat} {M : qxM} {st : List Value} {a0 a2 a3 : Option Value} {z : Int32} : Rs L xs (d) 295 0 [a0, some (.int z), a2, a3] st M x = Rs L xs (d) 295 1 [a0, some (.int z), a2, a3] (.int z :: st) M x := Rs_next c295_0 rfl
theorem c295_1 : qx_code 295 1 = some (1, .iload_n 2, 2, 0, 0, 0) := by decide +kernel
theorem s295_1 {L : Nat} {xs : Nat → Int32} {d x : Nat} {M : qxM} {st : List Value} {a0 a1 a3 : Option Value} {z : Int32} : Rs L xs (d) 295 1 [a0, a1, some (.int z), a3] st M x = Rs L xs (d) 295 2 [a0, a1, some (.int z), a3] (.int z :: st) M x := Rs_next c295_1 rfl
theorem c295_2 : qx_code 295 2 = some (2, .if_icmp .eq 23, 5, 25, 0, 0) := by decide +kernel
theorem s295_2 {L : Nat} {xs : Nat → Int32} {d x : Nat} {M : qxM} {st : List Value} {ls : qxL} {z y : Int32} : Rs L xs (d) 295 2 ls (.int y :: .int z :: st) M x = if z = y then Rs L xs (d) 295 25 ls st M x else Rs L xs (d) 295 5 ls st M x := Rs_ite c295_2 rfl
theorem c295_5 : qx_code 295 5 = some (5, .aload_n 0, 6, 0, 0, 0) := by decide +kernel
theorem s295_5 {L : Nat} {xs : Nat → Int32} {d x : Nat} {M : qxM} {st : List Value} {a1 a2 a3 : Option Value} {z : Nat} : Rs L xs (d) 295 5 [some (.ref z), a1, a2, a3] st M x = Rs L xs (d) 295 6 [some (.ref z), a1, a2, a3] (.ref z :: st) M x := Rs_next c295_5 rfl
theorem c295_6 : qx_code 295 6 = some (6, .iload_n 1, 7, 0, 0, 0) := by decide +kernel
theorem s295_6 {L : Nat} {xs : Nat → Int32} {d x : Nat} {M : qxM} {st : List Value} {a0 a2 a3 : Option Value} {z : Int32} : Rs L xs (d) 295 6 [a0, some (.int z), a2, a3] st M x = Rs L xs (d) 295 7 [a0, some (.int z), a2, a3] (.int z :: st) M x := Rs_next c295_6 rfl
theorem c295_7 : qx_code 295 7 = some (7, .iload_n 2, 8, 0, 0, 0) := by decide +kernel
theorem s295_7 {L : Nat} {xs : Nat → Int32} {d x : Nat} {M : qxM} {st : List Value} {a0 a1 a3 : Option Value} {z : Int32} : Rs L xs (d) 295 7 [a0, a1, some (.int z), a3] st M x = Rs L xs (d) 295 8 [a0, a1, some (.int z), a3] (.int z :: st) M x := Rs_next c295_7 rfl
theorem c295_8 : qx_code 295 8 = some (8, .aload_n 0, 9, 0, 0, 0) := by decide +kernel
theorem s295_8 {L : Nat} {xs : Nat → Int32} {d x : Nat} {M : qxM} {st : List Value} {a1 a2 a3 : Option Value} {z : Nat} : Rs L xs (d) 295 8 [some (.ref z), a1, a2, a3] st M x = Rs L xs (d) 295 9 [some (.ref z), a1, a2, a3] (.ref z :: st) M x := Rs_next c295_8 rfl
theorem c295_9 : qx_code 295 9 = some (9, .iload_n 1, 10, 0, 0, 0) := by decide +kernel
theorem s295_9 {L : Nat} {xs : Nat → Int32} {d x : Nat} {M : qxM} {st : List Value} {a0 a2 a3 : Option Value} {z : Int32} : Rs L xs (d) 295 9 [a0, some (.int z), a2, a3] st M x = Rs L xs (d) 295 10 [a0, some (.int z), a2, a3] (.int z :: st) M x := Rs_next c295_9 rfl
theorem c295_10 : qx_code 295 10 = some (10, .iload_n 2, 11, 0, 0, 0) := by decide +kernel
theorem s295_10 {L : Nat} {xs : Nat → Int32} {d x : Nat} {M : qxM} {st : List Value} {a0 a1 a3 : Option Value} {z : Int32} : Rs L xs (d) 295 10 [a0, a1, some (.int z), a3] st M x = Rs L xs (d) 295 11 [a0, a1, some (.int z), a3] (.int z :: st) M x := Rs_next c295_10 rfl
theorem c295_11 : qx_code 295 11 = some (11, .invokevirtual 197, 14, 216, 3, 1745) := by decide +kernel
theorem s295_11 {L : Nat} {xs : Nat → Int32} {d x : Nat} {M : qxM} {st : List Value} {ls : qxL} {t : Nat} {z0 : Int32} {z1 : Int32} (hk : qx_kd t = 18) (hs : st.length ≤ 4) : Rs L xs (d + 1) 295 11 ls (.int z1 :: .int z0 :: .ref t :: st) M x = (Rs L xs d 216 0 [some (.ref t), some (.int z0), some (.int z1)] [] M 0).bind (qx_kn L xs (d + 1) 295 11 14 216 ls st x) := by
  have h1 : qx_act L xs (qx_rt 295) (11, .invokevirtual 197, 14, 216, 3, 1745) ls (.int z1 :: .int z0 :: .ref t :: st) M = if 3 ≤ (.int z1 :: .int z0 :: .ref t :: st).length ∧ st.length ≤ 4 then some (.inr (.inr (.inr (216, [.ref t, .int z0, .int z1], st)))) else none := rfl
  rw [if_pos ⟨by simp [List.length_cons]; try omega, hs⟩] at h1
  have h2 := qx_kd_obj (k := 8) (by decide) hk
  exact Rs_call c295_11 h1 (by rw [show qx_args 216 [.ref t, .int z0, .int z1] = decide (qx_sh t = some (.inl 8)) from rfl]; exact decide_eq_true h2)
theorem c295_14 : qx_code 295 14 = some (14, .ifCond .ne 7, 17, 21, 0, 0) := by decide +kernel
theorem s295_14 {L : Nat} {xs : Nat → Int32} {d x : Nat} {M : qxM} {st : List Value} {ls : qxL} {z : Int32} : Rs L xs (d) 295 14 ls (.int z :: st) M x = if z = 0 then Rs L xs (d) 295 17 ls st M x else Rs L xs (d) 295 21 ls st M x := Rs_ite c295_14 rfl
theorem c295_17 : qx_code 295 17 = some (17, .iconst 1, 18, 0, 0, 0) := by decide +kernel
theorem s295_17 {L : Nat} {xs : Nat → Int32} {d x : Nat} {M : qxM} {st : List Value} {ls : qxL} : Rs L xs (d) 295 17 ls st M x = Rs L xs (d) 295 18 ls (.int (nI 1) :: st) M x := Rs_next c295_17 rfl
theorem c295_18 : qx_code 295 18 = some (18, .goto 4, 21, 22, 0, 0) := by decide +kernel
theorem s295_18 {L : Nat} {xs : Nat → Int32} {d x : Nat} {M : qxM} {st : List Value} {ls : qxL} : Rs L xs (d) 295 18 ls st M x = Rs L xs (d) 295 22 ls st M x := Rs_next c295_18 rfl
theorem c295_21 : qx_code 295 21 = some (21, .iconst 0, 22, 0, 0, 0) := by decide +kernel
theorem s295_21 {L : Nat} {xs : Nat → Int32} {d x : Nat} {M : qxM} {st : List Value} {ls : qxL} : Rs L xs (d) 295 21 ls st M x = Rs L xs (d) 295 22 ls (.int (nI 0) :: st) M x := Rs_next c295_21 rfl
theorem c295_22 : qx_code 295 22 = some (22, .invokevirtual 121, 25, 217, 4, 1720) := by decide +kernel
theorem s295_22 {L : Nat} {xs : Nat → Int32} {d x : Nat} {M : qxM} {st : List Value} {ls : qxL} {t : Nat} {z0 : Int32} {z1 : Int32} {z2 : Int32} (hk : qx_kd t = 18) (hs : st.length ≤ 4) : Rs L xs (d + 1) 295 22 ls (.int z2 :: .int z1 :: .int z0 :: .ref t :: st) M x = (Rs L xs d 217 0 [some (.ref t), some (.int z0), some (.int z1), some (.int z2)] [] M 0).bind (qx_kn L xs (d + 1) 295 22 25 217 ls st x) := by
  have h1 : qx_act L xs (qx_rt 295) (22, .invokevirtual 121, 25, 217, 4, 1720) ls (.int z2 :: .int z1 :: .int z0 :: .ref t :: st) M = if 4 ≤ (.int z2 :: .int z1 :: .int z0 :: .ref t :: st).length ∧ st.length ≤ 4 then some (.inr (.inr (.inr (217, [.ref t, .int z0, .int z1, .int z2], st)))) else none := rfl
  rw [if_pos ⟨by simp [List.length_cons]; try omega, hs⟩] at h1
  have h2 := qx_kd_obj (k := 8) (by decide) hk
  exact Rs_call c295_22 h1 (by rw [show qx_args 217 [.ref t, .int z0, .int z1, .int z2] = decide (qx_sh t = some (.inl 8)) from rfl]; exact decide_eq_true h2)
theorem c295_25 : qx_code 295 25 = some (25, .aload_n 0, 26, 0, 0, 0) := by decide +kernel
theorem s295_25 {L : Nat} {xs : Nat → Int32} {d x : Nat} {M : qxM} {st : List Value} {a1 a2 a3 : Option Value} {z : Nat} : Rs L xs (d) 295 25 [some (.ref z), a1, a2, a3] st M x = Rs L xs (d) 295 26 [some (.ref z), a1, a2, a3] (.ref z :: st) M x := Rs_next c295_25 rfl
theorem c295_26 : qx_code 295 26 = some (26, .invokevirtual 318, 29, 271, 1, 1922) := by decide +kernel
theorem s295_26 {L : Nat} {xs : Nat → Int32} {d x : Nat} {M : qxM} {st : List Value} {ls : qxL} {t : Nat} (hk : qx_kd t = 18) (hs : st.length ≤ 4) : Rs L xs (d + 1) 295 26 ls (.ref t :: st) M x = (Rs L xs d 271 0 [some (.ref t), none] [] M 0).bind (qx_kn L xs (d + 1) 295 26 29 271 ls st x) := by
  have h1 : qx_act L xs (qx_rt 295) (26, .invokevirtual 318, 29, 271, 1, 1922) ls (.ref t :: st) M = if 1 ≤ (.ref t :: st).length ∧ st.length ≤ 4 then some (.inr (.inr (.inr (271, [.ref t], st)))) else none := rfl
  rw [if_pos ⟨by simp [List.length_cons]; try omega, hs⟩] at h1
  have h2 := qx_kd_obj (k := 8) (by decide) hk
  exact Rs_call c295_26 h1 (by rw [show qx_args 271 [.ref t] = decide (qx_sh t = some (.inl 8)) from rfl]; exact decide_eq_true h2)
theorem c295_29 : qx_code 295 29 = some (29, .istore_n 3, 30, 0, 0, 0) := by decide +kernel
theorem s295_29i {L : Nat} {xs : Nat → Int32} {d x : Nat} {M : qxM} {st : List Value} {a0 a1 a3 : Option Value} {z : Int32} {y : Int32} : Rs L xs (d) 295 29 [a0, a1, some (.int y), a3] (.int z :: st) M x = Rs L xs (d) 295 30 [a0, a1, some (.int y), some (.int z)] st M x := Rs_next c295_29 rfl
theorem s295_29r {L : Nat} {xs : Nat → Int32} {d x : Nat} {M : qxM} {st : List Value} {a0 a1 a3 : Option Value} {z : Int32} {y : Nat} : Rs L xs (d) 295 29 [a0, a1, some (.ref y), a3] (.int z :: st) M x = Rs L xs (d) 295 30 [a0, a1, some (.ref y), some (.int z)] st M x := Rs_next c295_29 rfl
theorem s295_29n {L : Nat} {xs : Nat → Int32} {d x : Nat} {M : qxM} {st : List Value} {a0 a1 a3 : Option Value} {z : Int32} : Rs L xs (d) 295 29 [a0, a1, none, a3] (.int z :: st) M x = Rs L xs (d) 295 30 [a0, a1, none, some (.int z)] st M x := Rs_next c295_29 rfl
theorem c295_30 : qx_code 295 30 = some (30, .iload_n 1, 31, 0, 0, 0) := by decide +kernel
theorem s295_30 {L : Nat} {xs : Nat → Int32} {d x : Nat} {M : qxM} {st : List Value} {a0 a2 a3 : Option Value} {z : Int32} : Rs L xs (d) 295 30 [a0, some (.int z), a2, a3] st M x = Rs L xs (d) 295 31 [a0, some (.int z), a2, a3] (.int z :: st) M x := Rs_next c295_30 rfl
theorem c295_31 : qx_code 295 31 = some (31, .iload_n 2, 32, 0, 0, 0) := by decide +kernel
theorem s295_31 {L : Nat} {xs : Nat → Int32} {d x : Nat} {M : qxM} {st : List Value} {a0 a1 a3 : Option Value} {z : Int32} : Rs L xs (d) 295 31 [a0, a1, some (.int z), a3] st M x = Rs L xs (d) 295 32 [a0, a1, some (.int z), a3] (.int z :: st) M x := Rs_next c295_31 rfl
theorem c295_32 : qx_code 295 32 = some (32, .if_icmp .eq 23, 35, 55, 0, 0) := by decide +kernel
theorem s295_32 {L : Nat} {xs : Nat → Int32} {d x : Nat} {M : qxM} {st : List Value} {ls : qxL} {z y : Int32} : Rs L xs (d) 295 32 ls (.int y :: .int z :: st) M x = if z = y then Rs L xs (d) 295 55 ls st M x else Rs L xs (d) 295 35 ls st M x := Rs_ite c295_32 rfl
theorem c295_35 : qx_code 295 35 = some (35, .aload_n 0, 36, 0, 0, 0) := by decide +kernel
theorem s295_35 {L : Nat} {xs : Nat → Int32} {d x : Nat} {M : qxM} {st : List Value} {a1 a2 a3 : Option Value} {z : Nat} : Rs L xs (d) 295 35 [some (.ref z), a1, a2, a3] st M x = Rs L xs (d) 295 36 [some (.ref z), a1, a2, a3] (.ref z :: st) M x := Rs_next c295_35 rfl
theorem c295_36 : qx_code 295 36 = some (36, .iload_n 1, 37, 0, 0, 0) := by decide +kernel
theorem s295_36 {L : Nat} {xs : Nat → Int32} {d x : Nat} {M : qxM} {st : List Value} {a0 a2 a3 : Option Value} {z : Int32} : Rs L xs (d) 295 36 [a0, some (.int z), a2, a3] st M x = Rs L xs (d) 295 37 [a0, some (.int z), a2, a3] (.int z :: st) M x := Rs_next c295_36 rfl
theorem c295_37 : qx_code 295 37 = some (37, .iload_n 2, 38, 0, 0, 0) := by decide +kernel
theorem s295_37 {L : Nat} {xs : Nat → Int32} {d x : Nat} {M : qxM} {st : List Value} {a0 a1 a3 : Option Value} {z : Int32} : Rs L xs (d) 295 37 [a0, a1, some (.int z), a3] st M x = Rs L xs (d) 295 38 [a0, a1, some (.int z), a3] (.int z :: st) M x := Rs_next c295_37 rfl
theorem c295_38 : qx_code 295 38 = some (38, .aload_n 0, 39, 0, 0, 0) := by decide +kernel
theorem s295_38 {L : Nat} {xs : Nat → Int32} {d x : Nat} {M : qxM} {st : List Value} {a1 a2 a3 : Option Value} {z : Nat} : Rs L xs (d) 295 38 [some (.ref z), a1, a2, a3] st M x = Rs L xs (d) 295 39 [some (.ref z), a1, a2, a3] (.ref z :: st) M x := Rs_next c295_38 rfl
theorem c295_39 : qx_code 295 39 = some (39, .iload_n 1, 40, 0, 0, 0) := by decide +kernel
theorem s295_39 {L : Nat} {xs : Nat → Int32} {d x : Nat} {M : qxM} {st : List Value} {a0 a2 a3 : Option Value} {z : Int32} : Rs L xs (d) 295 39 [a0, some (.int z), a2, a3] st M x = Rs L xs (d) 295 40 [a0, some (.int z), a2, a3] (.int z :: st) M x := Rs_next c295_39 rfl
theorem c295_40 : qx_code 295 40 = some (40, .iload_n 2, 41, 0, 0, 0) := by decide +kernel
theorem s295_40 {L : Nat} {xs : Nat → Int32} {d x : Nat} {M : qxM} {st : List Value} {a0 a1 a3 : Option Value} {z : Int32} : Rs L xs (d) 295 40 [a0, a1, some (.int z), a3] st M x = Rs L xs (d) 295 41 [a0, a1, some (.int z), a3] (.int z :: st) M x := Rs_next c295_40 rfl
theorem c295_41 : qx_code 295 41 = some (41, .invokevirtual 197, 44, 216, 3, 1745) := by decide +kernel
theorem s295_41 {L : Nat} {xs : Nat → Int32} {d x : Nat} {M : qxM} {st : List Value} {ls : qxL} {t : Nat} {z0 : Int32} {z1 : Int32} (hk : qx_kd t = 18) (hs : st.length ≤ 4) : Rs L xs (d + 1) 295 41 ls (.int z1 :: .int z0 :: .ref t :: st) M x = (Rs L xs d 216 0 [some (.ref t), some (.int z0), some (.int z1)] [] M 0).bind (qx_kn L xs (d + 1) 295 41 44 216 ls st x) := by
  have h1 : qx_act L xs (qx_rt 295) (41, .invokevirtual 197, 44, 216, 3, 1745) ls (.int z1 :: .int z0 :: .ref t :: st) M = if 3 ≤ (.int z1 :: .int z0 :: .ref t :: st).length ∧ st.length ≤ 4 then some (.inr (.inr (.inr (216, [.ref t, .int z0, .int z1], st)))) else none := rfl
  rw [if_pos ⟨by simp [List.length_cons]; try omega, hs⟩] at h1
  have h2 := qx_kd_obj (k := 8) (by decide) hk
  exact Rs_call c295_41 h1 (by rw [show qx_args 216 [.ref t, .int z0, .int z1] = decide (qx_sh t = some (.inl 8)) from rfl]; exact decide_eq_true h2)
theorem c295_44 : qx_code 295 44 = some (44, .ifCond .ne 7, 47, 51, 0, 0) := by decide +kernel
theorem s295_44 {L : Nat} {xs : Nat → Int32} {d x : Nat} {M : qxM} {st : List Value} {ls : qxL} {z : Int32} : Rs L xs (d) 295 44 ls (.int z :: st) M x = if z = 0 then Rs L xs (d) 295 47 ls st M x else Rs L xs (d) 295 51 ls st M x := Rs_ite c295_44 rfl
theorem c295_47 : qx_code 295 47 = some (47, .iconst 1, 48, 0, 0, 0) := by decide +kernel
theorem s295_47 {L : Nat} {xs : Nat → Int32} {d x : Nat} {M : qxM} {st : List Value} {ls : qxL} : Rs L xs (d) 295 47 ls st M x = Rs L xs (d) 295 48 ls (.int (nI 1) :: st) M x := Rs_next c295_47 rfl
theorem c295_48 : qx_code 295 48 = some (48, .goto 4, 51, 52, 0, 0) := by decide +kernel
theorem s295_48 {L : Nat} {xs : Nat → Int32} {d x : Nat} {M : qxM} {st : List Value} {ls : qxL} : Rs L xs (d) 295 48 ls st M x = Rs L xs (d) 295 52 ls st M x := Rs_next c295_48 rfl
theorem c295_51 : qx_code 295 51 = some (51, .iconst 0, 52, 0, 0, 0) := by decide +kernel
theorem s295_51 {L : Nat} {xs : Nat → Int32} {d x : Nat} {M : qxM} {st : List Value} {ls : qxL} : Rs L xs (d) 295 51 ls st M x = Rs L xs (d) 295 52 ls (.int (nI 0) :: st) M x := Rs_next c295_51 rfl
theorem c295_52 : qx_code 295 52 = some (52, .invokevirtual 121, 55, 217, 4, 1720) := by decide +kernel
theorem s295_52 {L : Nat} {xs : Nat → Int32} {d x : Nat} {M : qxM} {st : List Value} {ls : qxL} {t : Nat} {z0 : Int32} {z1 : Int32} {z2 : Int32} (hk : qx_kd t = 18) (hs : st.length ≤ 4) : Rs L xs (d + 1) 295 52 ls (.int z2 :: .int z1 :: .int z0 :: .ref t :: st) M x = (Rs L xs d 217 0 [some (.ref t), some (.int z0), some (.int z1), some (.int z2)] [] M 0).bind (qx_kn L xs (d + 1) 295 52 55 217 ls st x) := by
  have h1 : qx_act L xs (qx_rt 295) (52, .invokevirtual 121, 55, 217, 4, 1720) ls (.int z2 :: .int z1 :: .int z0 :: .ref t :: st) M = if 4 ≤ (.int z2 :: .int z1 :: .int z0 :: .ref t :: st).length ∧ st.length ≤ 4 then some (.inr (.inr (.inr (217, [.ref t, .int z0, .int z1, .int z2], st)))) else none := rfl
  rw [if_pos ⟨by simp [List.length_cons]; try omega, hs⟩] at h1
  have h2 := qx_kd_obj (k := 8) (by decide) hk
  exact Rs_call c295_52 h1 (by rw [show qx_args 217 [.ref t, .int z0, .int z1, .int z2] = decide (qx_sh t = some (.inl 8)) from rfl]; exact decide_eq_true h2)
theorem c295_55 : qx_code 295 55 = some (55, .iload_n 3, 56, 0, 0, 0) := by decide +kernel
theorem s295_55 {L : Nat} {xs : Nat → Int32} {d x : Nat} {M : qxM} {st : List Value} {a0 a1 a2 : Option Value} {z : Int32} : Rs L xs (d) 295 55 [a0, a1, a2, some (.int z)] st M x = Rs L xs (d) 295 56 [a0, a1, a2, some (.int z)] (.int z :: st) M x := Rs_next c295_55 rfl
theorem c295_56 : qx_code 295 56 = some (56, .ireturn, 57, 0, 0, 0) := by decide +kernel
theorem s295_56 {L : Nat} {xs : Nat → Int32} {d x : Nat} {M : qxM} {ls : qxL} {z : Int32} : Rs L xs (d) 295 56 ls [.int z] M x = some (.inl (some (.int z)), M, x) := Rs_ret c295_56 rfl
theorem c296_0 : qx_code 296 0 = some (0, .aload_n 0, 1, 0, 0, 0) := by decide +kernel
theorem s296_0 {L : Nat} {xs : Nat → Int32} {d x : Nat} {M : qxM} {st : List Value} {a1 a2 : Option Value} {z : Nat} : Rs L xs (d) 296 0 [some (.ref z), a1, a2] st M x = Rs L xs (d) 296 1 [some (.ref z), a1, a2] (.ref z :: st) M x := Rs_next c296_0 rfl
theorem c296_1 : qx_code 296 1 = some (1, .iload_n 1, 2, 0, 0, 0) := by decide +kernel
theorem s296_1 {L : Nat} {xs : Nat → Int32} {d x : Nat} {M : qxM} {st : List Value} {a0 a2 : Option Value} {z : Int32} : Rs L xs (d) 296 1 [a0, some (.int z), a2] st M x = Rs L xs (d) 296 2 [a0, some (.int z), a2] (.int z :: st) M x := Rs_next c296_1 rfl
theorem c296_2 : qx_code 296 2 = some (2, .iload_n 2, 3, 0, 0, 0) := by decide +kernel
theorem s296_2 {L : Nat} {xs : Nat → Int32} {d x : Nat} {M : qxM} {st : List Value} {a0 a1 : Option Value} {z : Int32} : Rs L xs (d) 296 2 [a0, a1, some (.int z)] st M x = Rs L xs (d) 296 3 [a0, a1, some (.int z)] (.int z :: st) M x := Rs_next c296_2 rfl
theorem c296_3 : qx_code 296 3 = some (3, .invokevirtual 229, 6, 227, 3, 1811) := by decide +kernel
theorem s296_3 {L : Nat} {xs : Nat → Int32} {d x : Nat} {M : qxM} {st : List Value} {ls : qxL} {t : Nat} {z0 : Int32} {z1 : Int32} (hk : qx_kd t = 18) (hs : st.length ≤ 4) : Rs L xs (d + 1) 296 3 ls (.int z1 :: .int z0 :: .ref t :: st) M x = (Rs L xs d 227 0 [some (.ref t), some (.int z0), some (.int z1)] [] M 0).bind (qx_kn L xs (d + 1) 296 3 6 227 ls st x) := by
  have h1 : qx_act L xs (qx_rt 296) (3, .invokevirtual 229, 6, 227, 3, 1811) ls (.int z1 :: .int z0 :: .ref t :: st) M = if 3 ≤ (.int z1 :: .int z0 :: .ref t :: st).length ∧ st.length ≤ 4 then some (.inr (.inr (.inr (227, [.ref t, .int z0, .int z1], st)))) else none := rfl
  rw [if_pos ⟨by simp [List.length_cons]; try omega, hs⟩] at h1
  have h2 := qx_kd_obj (k := 8) (by decide) hk
  exact Rs_call c296_3 h1 (by rw [show qx_args 227 [.ref t, .int z0, .int z1] = decide (qx_sh t = some (.inl 8)) from rfl]; exact decide_eq_true h2)
theorem c296_6 : qx_code 296 6 = some (6, .ifCond .eq 17, 9, 23, 0, 0) := by decide +kernel
theorem s296_6 {L : Nat} {xs : Nat → Int32} {d x : Nat} {M : qxM} {st : List Value} {ls : qxL} {z : Int32} : Rs L xs (d) 296 6 ls (.int z :: st) M x = if z = 0 then Rs L xs (d) 296 23 ls st M x else Rs L xs (d) 296 9 ls st M x := Rs_ite c296_6 rfl
theorem c296_9 : qx_code 296 9 = some (9, .iload_n 1, 10, 0, 0, 0) := by decide +kernel
theorem s296_9 {L : Nat} {xs : Nat → Int32} {d x : Nat} {M : qxM} {st : List Value} {a0 a2 : Option Value} {z : Int32} : Rs L xs (d) 296 9 [a0, some (.int z), a2] st M x = Rs L xs (d) 296 10 [a0, some (.int z), a2] (.int z :: st) M x := Rs_next c296_9 rfl
theorem c296_10 : qx_code 296 10 = some (10, .iload_n 2, 11, 0, 0, 0) := by decide +kernel
theorem s296_10 {L : Nat} {xs : Nat → Int32} {d x : Nat} {M : qxM} {st : List Value} {a0 a1 : Option Value} {z : Int32} : Rs L xs (d) 296 10 [a0, a1, some (.int z)] st M x = Rs L xs (d) 296 11 [a0, a1, some (.int z)] (.int z :: st) M x := Rs_next c296_10 rfl
theorem c296_11 : qx_code 296 11 = some (11, .if_icmp .eq 12, 14, 23, 0, 0) := by decide +kernel
theorem s296_11 {L : Nat} {xs : Nat → Int32} {d x : Nat} {M : qxM} {st : List Value} {ls : qxL} {z y : Int32} : Rs L xs (d) 296 11 ls (.int y :: .int z :: st) M x = if z = y then Rs L xs (d) 296 23 ls st M x else Rs L xs (d) 296 14 ls st M x := Rs_ite c296_11 rfl
theorem c296_14 : qx_code 296 14 = some (14, .aload_n 0, 15, 0, 0, 0) := by decide +kernel
theorem s296_14 {L : Nat} {xs : Nat → Int32} {d x : Nat} {M : qxM} {st : List Value} {a1 a2 : Option Value} {z : Nat} : Rs L xs (d) 296 14 [some (.ref z), a1, a2] st M x = Rs L xs (d) 296 15 [some (.ref z), a1, a2] (.ref z :: st) M x := Rs_next c296_14 rfl
theorem c296_15 : qx_code 296 15 = some (15, .iload_n 1, 16, 0, 0, 0) := by decide +kernel
theorem s296_15 {L : Nat} {xs : Nat → Int32} {d x : Nat} {M : qxM} {st : List Value} {a0 a2 : Option Value} {z : Int32} : Rs L xs (d) 296 15 [a0, some (.int z), a2] st M x = Rs L xs (d) 296 16 [a0, some (.int z), a2] (.int z :: st) M x := Rs_next c296_15 rfl
theorem c296_16 : qx_code 296 16 = some (16, .iload_n 2, 17, 0, 0, 0) := by decide +kernel
theorem s296_16 {L : Nat} {xs : Nat → Int32} {d x : Nat} {M : qxM} {st : List Value} {a0 a1 : Option Value} {z : Int32} : Rs L xs (d) 296 16 [a0, a1, some (.int z)] st M x = Rs L xs (d) 296 17 [a0, a1, some (.int z)] (.int z :: st) M x := Rs_next c296_16 rfl
theorem c296_17 : qx_code 296 17 = some (17, .invokevirtual 136, 20, 219, 3, 1741) := by decide +kernel
theorem s296_17 {L : Nat} {xs : Nat → Int32} {d x : Nat} {M : qxM} {st : List Value} {ls : qxL} {t : Nat} {z0 : Int32} {z1 : Int32} (hk : qx_kd t = 18) (hs : st.length ≤ 4) : Rs L xs (d + 1) 296 17 ls (.int z1 :: .int z0 :: .ref t :: st) M x = (Rs L xs d 219 0 [some (.ref t), some (.int z0), some (.int z1)] [] M 0).bind (qx_kn L xs (d + 1) 296 17 20 219 ls st x) := by
  have h1 : qx_act L xs (qx_rt 296) (17, .invokevirtual 136, 20, 219, 3, 1741) ls (.int z1 :: .int z0 :: .ref t :: st) M = if 3 ≤ (.int z1 :: .int z0 :: .ref t :: st).length ∧ st.length ≤ 4 then some (.inr (.inr (.inr (219, [.ref t, .int z0, .int z1], st)))) else none := rfl
  rw [if_pos ⟨by simp [List.length_cons]; try omega, hs⟩] at h1
  have h2 := qx_kd_obj (k := 8) (by decide) hk
  exact Rs_call c296_17 h1 (by rw [show qx_args 219 [.ref t, .int z0, .int z1] = decide (qx_sh t = some (.inl 8)) from rfl]; exact decide_eq_true h2)
theorem c296_20 : qx_code 296 20 = some (20, .ifCond .ne 5, 23, 25, 0, 0) := by decide +kernel
theorem s296_20 {L : Nat} {xs : Nat → Int32} {d x : Nat} {M : qxM} {st : List Value} {ls : qxL} {z : Int32} : Rs L xs (d) 296 20 ls (.int z :: st) M x = if z = 0 then Rs L xs (d) 296 23 ls st M x else Rs L xs (d) 296 25 ls st M x := Rs_ite c296_20 rfl
theorem c296_23 : qx_code 296 23 = some (23, .iconst 0, 24, 0, 0, 0) := by decide +kernel
theorem s296_23 {L : Nat} {xs : Nat → Int32} {d x : Nat} {M : qxM} {st : List Value} {ls : qxL} : Rs L xs (d) 296 23 ls st M x = Rs L xs (d) 296 24 ls (.int (nI 0) :: st) M x := Rs_next c296_23 rfl
theorem c296_24 : qx_code 296 24 = some (24, .ireturn, 25, 0, 0, 0) := by decide +kernel
theorem s296_24 {L : Nat} {xs : Nat → Int32} {d x : Nat} {M : qxM} {ls : qxL} {z : Int32} (h01 : z = 0 ∨ z = 1) : Rs L xs (d) 296 24 ls [.int z] M x = some (.inl (some (.int z)), M, x) := Rs_retw h01 c296_24 rfl
theorem c296_25 : qx_code 296 25 = some (25, .aload_n 0, 26, 0, 0, 0) := by decide +kernel
theorem s296_25 {L : Nat} {xs : Nat → Int32} {d x : Nat} {M : qxM} {st : List Value} {a1 a2 : Option Value} {z : Nat} : Rs L xs (d) 296 25 [some (.ref z), a1, a2] st M x = Rs L xs (d) 296 26 [some (.ref z), a1, a2] (.ref z :: st) M x := Rs_next c296_25 rfl
theorem c296_26 : qx_code 296 26 = some (26, .iload_n 1, 27, 0, 0, 0) := by decide +kernel
theorem s296_26 {L : Nat} {xs : Nat → Int32} {d x : Nat} {M : qxM} {st : List Value} {a0 a2 : Option Value} {z : Int32} : Rs L xs (d) 296 26 [a0, some (.int z), a2] st M x = Rs L xs (d) 296 27 [a0, some (.int z), a2] (.int z :: st) M x := Rs_next c296_26 rfl
theorem c296_27 : qx_code 296 27 = some (27, .iload_n 2, 28, 0, 0, 0) := by decide +kernel
theorem s296_27 {L : Nat} {xs : Nat → Int32} {d x : Nat} {M : qxM} {st : List Value} {a0 a1 : Option Value} {z : Int32} : Rs L xs (d) 296 27 [a0, a1, some (.int z)] st M x = Rs L xs (d) 296 28 [a0, a1, some (.int z)] (.int z :: st) M x := Rs_next c296_27 rfl
theorem c296_28 : qx_code 296 28 = some (28, .invokevirtual 351, 31, 295, 3, 2026) := by decide +kernel
theorem s296_28 {L : Nat} {xs : Nat → Int32} {d x : Nat} {M : qxM} {st : List Value} {ls : qxL} {t : Nat} {z0 : Int32} {z1 : Int32} (hk : qx_kd t = 18) (hs : st.length ≤ 4) : Rs L xs (d + 1) 296 28 ls (.int z1 :: .int z0 :: .ref t :: st) M x = (Rs L xs d 295 0 [some (.ref t), some (.int z0), some (.int z1), none] [] M 0).bind (qx_kn L xs (d + 1) 296 28 31 295 ls st x) := by
  have h1 : qx_act L xs (qx_rt 296) (28, .invokevirtual 351, 31, 295, 3, 2026) ls (.int z1 :: .int z0 :: .ref t :: st) M = if 3 ≤ (.int z1 :: .int z0 :: .ref t :: st).length ∧ st.length ≤ 4 then some (.inr (.inr (.inr (295, [.ref t, .int z0, .int z1], st)))) else none := rfl
  rw [if_pos ⟨by simp [List.length_cons]; try omega, hs⟩] at h1
  have h2 := qx_kd_obj (k := 8) (by decide) hk
  exact Rs_call c296_28 h1 (by rw [show qx_args 295 [.ref t, .int z0, .int z1] = decide (qx_sh t = some (.inl 8)) from rfl]; exact decide_eq_true h2)
theorem c296_31 : qx_code 296 31 = some (31, .aload_n 0, 32, 0, 0, 0) := by decide +kernel
theorem s296_31 {L : Nat} {xs : Nat → Int32} {d x : Nat} {M : qxM} {st : List Value} {a1 a2 : Option Value} {z : Nat} : Rs L xs (d) 296 31 [some (.ref z), a1, a2] st M x = Rs L xs (d) 296 32 [some (.ref z), a1, a2] (.ref z :: st) M x := Rs_next c296_31 rfl
theorem c296_32 : qx_code 296 32 = some (32, .invokevirtual 318, 35, 271, 1, 1922) := by decide +kernel
theorem s296_32 {L : Nat} {xs : Nat → Int32} {d x : Nat} {M : qxM} {st : List Value} {ls : qxL} {t : Nat} (hk : qx_kd t = 18) (hs : st.length ≤ 4) : Rs L xs (d + 1) 296 32 ls (.ref t :: st) M x = (Rs L xs d 271 0 [some (.ref t), none] [] M 0).bind (qx_kn L xs (d + 1) 296 32 35 271 ls st x) := by
  have h1 : qx_act L xs (qx_rt 296) (32, .invokevirtual 318, 35, 271, 1, 1922) ls (.ref t :: st) M = if 1 ≤ (.ref t :: st).length ∧ st.length ≤ 4 then some (.inr (.inr (.inr (271, [.ref t], st)))) else none := rfl
  rw [if_pos ⟨by simp [List.length_cons]; try omega, hs⟩] at h1
  have h2 := qx_kd_obj (k := 8) (by decide) hk
  exact Rs_call c296_32 h1 (by rw [show qx_args 271 [.ref t] = decide (qx_sh t = some (.inl 8)) from rfl]; exact decide_eq_true h2)
theorem c296_35 : qx_code 296 35 = some (35, .if_icmp .ge 7, 38, 42, 0, 0) := by decide +kernel
theorem s296_35 {L : Nat} {xs : Nat → Int32} {d x : Nat} {M : qxM} {st : List Value} {ls : qxL} {z y : Int32} : Rs L xs (d) 296 35 ls (.int y :: .int z :: st) M x = if y ≤ z then Rs L xs (d) 296 42 ls st M x else Rs L xs (d) 296 38 ls st M x := Rs_ite c296_35 rfl
theorem c296_38 : qx_code 296 38 = some (38, .iconst 1, 39, 0, 0, 0) := by decide +kernel
theorem s296_38 {L : Nat} {xs : Nat → Int32} {d x : Nat} {M : qxM} {st : List Value} {ls : qxL} : Rs L xs (d) 296 38 ls st M x = Rs L xs (d) 296 39 ls (.int (nI 1) :: st) M x := Rs_next c296_38 rfl
theorem c296_39 : qx_code 296 39 = some (39, .goto 4, 42, 43, 0, 0) := by decide +kernel
theorem s296_39 {L : Nat} {xs : Nat → Int32} {d x : Nat} {M : qxM} {st : List Value} {ls : qxL} : Rs L xs (d) 296 39 ls st M x = Rs L xs (d) 296 43 ls st M x := Rs_next c296_39 rfl
theorem c296_42 : qx_code 296 42 = some (42, .iconst 0, 43, 0, 0, 0) := by decide +kernel
theorem s296_42 {L : Nat} {xs : Nat → Int32} {d x : Nat} {M : qxM} {st : List Value} {ls : qxL} : Rs L xs (d) 296 42 ls st M x = Rs L xs (d) 296 43 ls (.int (nI 0) :: st) M x := Rs_next c296_42 rfl
theorem c296_43 : qx_code 296 43 = some (43, .ireturn, 44, 0, 0, 0) := by decide +kernel
theorem s296_43 {L : Nat} {xs : Nat → Int32} {d x : Nat} {M : qxM} {ls : qxL} {z : Int32} (h01 : z = 0 ∨ z = 1) : Rs L xs (d) 296 43 ls [.int z] M x = some (.inl (some (.int z)), M, x) := Rs_retw h01 c296_43 rfl
theorem c297_0 : qx_code 297 0 = some (0, .aload_n 0, 1, 0, 0, 0) := by decide +kernel
theorem s297_0 {L : Nat} {xs : Nat → Int32} {d x : Nat} {M : qxM} {st : List Value} {a1 : Option Value} {z : Nat} : Rs L xs (d) 297 0 [some (.ref z), a1] st M x = Rs L xs (d) 297 1 [some (.ref z), a1] (.ref z :: st) M x := Rs_next c297_0 rfl
theorem c297_1 : qx_code 297 1 = some (1, .invokevirtual 306, 4, 263, 1, 1882) := by decide +kernel
theorem s297_1 {L : Nat} {xs : Nat → Int32} {d x : Nat} {M : qxM} {st : List Value} {ls : qxL} {t : Nat} (hk : qx_kd t = 18) (hs : st.length ≤ 4) : Rs L xs (d + 1) 297 1 ls (.ref t :: st) M x = (Rs L xs d 263 0 [some (.ref t)] [] M 0).bind (qx_kn L xs (d + 1) 297 1 4 263 ls st x) := by
  have h1 : qx_act L xs (qx_rt 297) (1, .invokevirtual 306, 4, 263, 1, 1882) ls (.ref t :: st) M = if 1 ≤ (.ref t :: st).length ∧ st.length ≤ 4 then some (.inr (.inr (.inr (263, [.ref t], st)))) else none := rfl
  rw [if_pos ⟨by simp [List.length_cons]; try omega, hs⟩] at h1
  have h2 := qx_kd_obj (k := 8) (by decide) hk
  exact Rs_call c297_1 h1 (by rw [show qx_args 263 [.ref t] = decide (qx_sh t = some (.inl 8)) from rfl]; exact decide_eq_true h2)
theorem c297_4 : qx_code 297 4 = some (4, .ifCond .ne 5, 7, 9, 0, 0) := by decide +kernel
theorem s297_4 {L : Nat} {xs : Nat → Int32} {d x : Nat} {M : qxM} {st : List Value} {ls : qxL} {z : Int32} : Rs L xs (d) 297 4 ls (.int z :: st) M x = if z = 0 then Rs L xs (d) 297 7 ls st M x else Rs L xs (d) 297 9 ls st M x := Rs_ite c297_4 rfl
theorem c297_7 : qx_code 297 7 = some (7, .lconst 0, 8, 0, 0, 0) := by decide +kernel
theorem s297_7 {L : Nat} {xs : Nat → Int32} {d x : Nat} {M : qxM} {st : List Value} {ls : qxL} : Rs L xs (d) 297 7 ls st M x = Rs L xs (d) 297 8 ls (.long (Int64.ofNat 0) :: st) M x := Rs_next c297_7 rfl
theorem c297_8 : qx_code 297 8 = some (8, .lreturn, 9, 0, 0, 0) := by decide +kernel
theorem s297_8 {L : Nat} {xs : Nat → Int32} {d x : Nat} {M : qxM} {ls : qxL} {z : Int64} : Rs L xs (d) 297 8 ls [.long z] M x = some (.inl (some (.long z)), M, x) := Rs_ret c297_8 rfl
theorem c297_9 : qx_code 297 9 = some (9, .aload_n 0, 10, 0, 0, 0) := by decide +kernel
theorem s297_9 {L : Nat} {xs : Nat → Int32} {d x : Nat} {M : qxM} {st : List Value} {a1 : Option Value} {z : Nat} : Rs L xs (d) 297 9 [some (.ref z), a1] st M x = Rs L xs (d) 297 10 [some (.ref z), a1] (.ref z :: st) M x := Rs_next c297_9 rfl
theorem c297_10 : qx_code 297 10 = some (10, .invokevirtual 318, 13, 271, 1, 1922) := by decide +kernel
theorem s297_10 {L : Nat} {xs : Nat → Int32} {d x : Nat} {M : qxM} {st : List Value} {ls : qxL} {t : Nat} (hk : qx_kd t = 18) (hs : st.length ≤ 4) : Rs L xs (d + 1) 297 10 ls (.ref t :: st) M x = (Rs L xs d 271 0 [some (.ref t), none] [] M 0).bind (qx_kn L xs (d + 1) 297 10 13 271 ls st x) := by
  have h1 : qx_act L xs (qx_rt 297) (10, .invokevirtual 318, 13, 271, 1, 1922) ls (.ref t :: st) M = if 1 ≤ (.ref t :: st).length ∧ st.length ≤ 4 then some (.inr (.inr (.inr (271, [.ref t], st)))) else none := rfl
  rw [if_pos ⟨by simp [List.length_cons]; try omega, hs⟩] at h1
  have h2 := qx_kd_obj (k := 8) (by decide) hk
  exact Rs_call c297_10 h1 (by rw [show qx_args 271 [.ref t] = decide (qx_sh t = some (.inl 8)) from rfl]; exact decide_eq_true h2)
theorem c297_13 : qx_code 297 13 = some (13, .istore_n 1, 14, 0, 0, 0) := by decide +kernel
theorem s297_13i {L : Nat} {xs : Nat → Int32} {d x : Nat} {M : qxM} {st : List Value} {a1 : Option Value} {z : Int32} {y : Int32} : Rs L xs (d) 297 13 [some (.int y), a1] (.int z :: st) M x = Rs L xs (d) 297 14 [some (.int y), some (.int z)] st M x := Rs_next c297_13 rfl
theorem s297_13r {L : Nat} {xs : Nat → Int32} {d x : Nat} {M : qxM} {st : List Value} {a1 : Option Value} {z : Int32} {y : Nat} : Rs L xs (d) 297 13 [some (.ref y), a1] (.int z :: st) M x = Rs L xs (d) 297 14 [some (.ref y), some (.int z)] st M x := Rs_next c297_13 rfl
theorem s297_13n {L : Nat} {xs : Nat → Int32} {d x : Nat} {M : qxM} {st : List Value} {a1 : Option Value} {z : Int32} : Rs L xs (d) 297 13 [none, a1] (.int z :: st) M x = Rs L xs (d) 297 14 [none, some (.int z)] st M x := Rs_next c297_13 rfl
theorem c297_14 : qx_code 297 14 = some (14, .aload_n 0, 15, 0, 0, 0) := by decide +kernel
theorem s297_14 {L : Nat} {xs : Nat → Int32} {d x : Nat} {M : qxM} {st : List Value} {a1 : Option Value} {z : Nat} : Rs L xs (d) 297 14 [some (.ref z), a1] st M x = Rs L xs (d) 297 15 [some (.ref z), a1] (.ref z :: st) M x := Rs_next c297_14 rfl
theorem c297_15 : qx_code 297 15 = some (15, .getfield 37, 18, 8, 18, 1563) := by decide +kernel
theorem s297_15 {L : Nat} {xs : Nat → Int32} {d x : Nat} {M : qxM} {st : List Value} {ls : qxL} {t : Nat} (hk : qx_kd t = 18) : Rs L xs (d) 297 15 ls (.ref t :: st) M x = Rs L xs (d) 297 18 ls (.ref (t + 8) :: st) M x := Rs_when (qx_kd_obj (k := 8) (by decide) hk) c297_15 rfl
theorem c297_18 : qx_code 297 18 = some (18, .aload_n 0, 19, 0, 0, 0) := by decide +kernel
theorem s297_18 {L : Nat} {xs : Nat → Int32} {d x : Nat} {M : qxM} {st : List Value} {a1 : Option Value} {z : Nat} : Rs L xs (d) 297 18 [some (.ref z), a1] st M x = Rs L xs (d) 297 19 [some (.ref z), a1] (.ref z :: st) M x := Rs_next c297_18 rfl
theorem c297_19 : qx_code 297 19 = some (19, .invokevirtual 312, 22, 212, 1, 1926) := by decide +kernel
theorem s297_19 {L : Nat} {xs : Nat → Int32} {d x : Nat} {M : qxM} {st : List Value} {ls : qxL} {t : Nat} (hk : qx_kd t = 18) (hs : st.length ≤ 4) : Rs L xs (d + 1) 297 19 ls (.ref t :: st) M x = (Rs L xs d 212 0 [some (.ref t)] [] M 0).bind (qx_kn L xs (d + 1) 297 19 22 212 ls st x) := by
  have h1 : qx_act L xs (qx_rt 297) (19, .invokevirtual 312, 22, 212, 1, 1926) ls (.ref t :: st) M = if 1 ≤ (.ref t :: st).length ∧ st.length ≤ 4 then some (.inr (.inr (.inr (212, [.ref t], st)))) else none := rfl
  rw [if_pos ⟨by simp [List.length_cons]; try omega, hs⟩] at h1
  have h2 := qx_kd_obj (k := 8) (by decide) hk
  exact Rs_call c297_19 h1 (by rw [show qx_args 212 [.ref t] = decide (qx_sh t = some (.inl 8)) from rfl]; exact decide_eq_true h2)
theorem c297_22 : qx_code 297 22 = some (22, .iaload, 23, 0, 0, 0) := by decide +kernel
theorem s297_22 {L : Nat} {xs : Nat → Int32} {d x : Nat} {M : qxM} {st : List Value} {ls : qxL} {t : Nat} {j : Int32} (hk : qx_kd t = 0) (hj : qx_ib j (qx_ln t) = true) : Rs L xs (d) 297 22 ls (.int j :: .ref t :: st) M x = Rs L xs (d) 297 23 ls (.int (M.1 t j.toNatClampNeg) :: st) M x := by
  have h1 := qx_kd_row (k := 0) (by decide) hk
  exact Rs_unless (qx_ib_not hj) c297_22 (by unfold qx_act; dsimp only; rw [h1]; rfl)
theorem c297_23 : qx_code 297 23 = some (23, .i2l, 24, 0, 0, 0) := by decide +kernel
theorem s297_23 {L : Nat} {xs : Nat → Int32} {d x : Nat} {M : qxM} {st : List Value} {ls : qxL} {z : Int32} : Rs L xs (d) 297 23 ls (.int z :: st) M x = Rs L xs (d) 297 24 ls (.long z.toInt64 :: st) M x := Rs_next c297_23 rfl
theorem c297_24 : qx_code 297 24 = some (24, .lreturn, 25, 0, 0, 0) := by decide +kernel
theorem s297_24 {L : Nat} {xs : Nat → Int32} {d x : Nat} {M : qxM} {ls : qxL} {z : Int64} : Rs L xs (d) 297 24 ls [.long z] M x = some (.inl (some (.long z)), M, x) := Rs_ret c297_24 rfl
theorem c298_0 : qx_code 298 0 = some (0, .iload_n 1, 1, 0, 0, 0) := by decide +kernel
theorem s298_0 {L : Nat} {xs : Nat → Int32} {d x : Nat} {M : qxM} {st : List Value} {a0 a2 a3 a4 : Option Value} {z : Int32} : Rs L xs (d) 298 0 [a0, some (.int z), a2, a3, a4] st M x = Rs L xs (d) 298 1 [a0, some (.int z), a2, a3, a4] (.int z :: st) M x := Rs_next c298_0 rfl
theorem c298_1 : qx_code 298 1 = some (1, .iload_n 1, 2, 0, 0, 0) := by decide +kernel
theorem s298_1 {L : Nat} {xs : Nat → Int32} {d x : Nat} {M : qxM} {st : List Value} {a0 a2 a3 a4 : Option Value} {z : Int32} : Rs L xs (d) 298 1 [a0, some (.int z), a2, a3, a4] st M x = Rs L xs (d) 298 2 [a0, some (.int z), a2, a3, a4] (.int z :: st) M x := Rs_next c298_1 rfl
theorem c298_2 : qx_code 298 2 = some (2, .iconst 1, 3, 0, 0, 0) := by decide +kernel
theorem s298_2 {L : Nat} {xs : Nat → Int32} {d x : Nat} {M : qxM} {st : List Value} {ls : qxL} : Rs L xs (d) 298 2 ls st M x = Rs L xs (d) 298 3 ls (.int (nI 1) :: st) M x := Rs_next c298_2 rfl
theorem c298_3 : qx_code 298 3 = some (3, .isub, 4, 0, 0, 0) := by decide +kernel
theorem s298_3 {L : Nat} {xs : Nat → Int32} {d x : Nat} {M : qxM} {st : List Value} {ls : qxL} {z y : Int32} : Rs L xs (d) 298 3 ls (.int y :: .int z :: st) M x = Rs L xs (d) 298 4 ls (.int (z - y) :: st) M x := Rs_next c298_3 rfl
theorem c298_4 : qx_code 298 4 = some (4, .iand, 5, 0, 0, 0) := by decide +kernel
theorem s298_4 {L : Nat} {xs : Nat → Int32} {d x : Nat} {M : qxM} {st : List Value} {ls : qxL} {z y : Int32} : Rs L xs (d) 298 4 ls (.int y :: .int z :: st) M x = Rs L xs (d) 298 5 ls (.int (z &&& y) :: st) M x := Rs_next c298_4 rfl
theorem c298_5 : qx_code 298 5 = some (5, .istore_n 2, 6, 0, 0, 0) := by decide +kernel
theorem s298_5i {L : Nat} {xs : Nat → Int32} {d x : Nat} {M : qxM} {st : List Value} {a0 a2 a3 a4 : Option Value} {z : Int32} {y : Int32} : Rs L xs (d) 298 5 [a0, some (.int y), a2, a3, a4] (.int z :: st) M x = Rs L xs (d) 298 6 [a0, some (.int y), some (.int z), a3, a4] st M x := Rs_next c298_5 rfl
theorem s298_5r {L : Nat} {xs : Nat → Int32} {d x : Nat} {M : qxM} {st : List Value} {a0 a2 a3 a4 : Option Value} {z : Int32} {y : Nat} : Rs L xs (d) 298 5 [a0, some (.ref y), a2, a3, a4] (.int z :: st) M x = Rs L xs (d) 298 6 [a0, some (.ref y), some (.int z), a3, a4] st M x := Rs_next c298_5 rfl
theorem s298_5n {L : Nat} {xs : Nat → Int32} {d x : Nat} {M : qxM} {st : List Value} {a0 a2 a3 a4 : Option Value} {z : Int32} : Rs L xs (d) 298 5 [a0, none, a2, a3, a4] (.int z :: st) M x = Rs L xs (d) 298 6 [a0, none, some (.int z), a3, a4] st M x := Rs_next c298_5 rfl
theorem c298_6 : qx_code 298 6 = some (6, .aload_n 0, 7, 0, 0, 0) := by decide +kernel
theorem s298_6 {L : Nat} {xs : Nat → Int32} {d x : Nat} {M : qxM} {st : List Value} {a1 a2 a3 a4 : Option Value} {z : Nat} : Rs L xs (d) 298 6 [some (.ref z), a1, a2, a3, a4] st M x = Rs L xs (d) 298 7 [some (.ref z), a1, a2, a3, a4] (.ref z :: st) M x := Rs_next c298_6 rfl
theorem c298_7 : qx_code 298 7 = some (7, .getfield 40, 10, 8, 19, 1564) := by decide +kernel
theorem s298_7 {L : Nat} {xs : Nat → Int32} {d x : Nat} {M : qxM} {st : List Value} {ls : qxL} {t : Nat} (hk : qx_kd t = 18) : Rs L xs (d) 298 7 ls (.ref t :: st) M x = Rs L xs (d) 298 10 ls (.ref (t + 9) :: st) M x := Rs_when (qx_kd_obj (k := 8) (by decide) hk) c298_7 rfl
theorem c298_10 : qx_code 298 10 = some (10, .iload_n 1, 11, 0, 0, 0) := by decide +kernel
theorem s298_10 {L : Nat} {xs : Nat → Int32} {d x : Nat} {M : qxM} {st : List Value} {a0 a2 a3 a4 : Option Value} {z : Int32} : Rs L xs (d) 298 10 [a0, some (.int z), a2, a3, a4] st M x = Rs L xs (d) 298 11 [a0, some (.int z), a2, a3, a4] (.int z :: st) M x := Rs_next c298_10 rfl
theorem c298_11 : qx_code 298 11 = some (11, .invokestatic 235, 14, 210, 1, 1823) := by decide +kernel
theorem s298_11 {L : Nat} {xs : Nat → Int32} {d x : Nat} {M : qxM} {st : List Value} {ls : qxL} {z0 : Int32} (hs : st.length ≤ 4) : Rs L xs (d + 1) 298 11 ls (.int z0 :: st) M x = (Rs L xs d 210 0 [some (.int z0)] [] M 0).bind (qx_kn L xs (d + 1) 298 11 14 210 ls st x) := by
  have h1 : qx_act L xs (qx_rt 298) (11, .invokestatic 235, 14, 210, 1, 1823) ls (.int z0 :: st) M = if 1 ≤ (.int z0 :: st).length ∧ st.length ≤ 4 then some (.inr (.inr (.inr (210, [.int z0], st)))) else none := rfl
  rw [if_pos ⟨by simp [List.length_cons]; try omega, hs⟩] at h1
  exact Rs_call c298_11 h1 rfl
theorem c298_14 : qx_code 298 14 = some (14, .iaload, 15, 0, 0, 0) := by decide +kernel
theorem s298_14 {L : Nat} {xs : Nat → Int32} {d x : Nat} {M : qxM} {st : List Value} {ls : qxL} {t : Nat} {j : Int32} (hk : qx_kd t = 0) (hj : qx_ib j (qx_ln t) = true) : Rs L xs (d) 298 14 ls (.int j :: .ref t :: st) M x = Rs L xs (d) 298 15 ls (.int (M.1 t j.toNatClampNeg) :: st) M x := by
  have h1 := qx_kd_row (k := 0) (by decide) hk
  exact Rs_unless (qx_ib_not hj) c298_14 (by unfold qx_act; dsimp only; rw [h1]; rfl)
theorem c298_15 : qx_code 298 15 = some (15, .iload_n 2, 16, 0, 0, 0) := by decide +kernel
theorem s298_15 {L : Nat} {xs : Nat → Int32} {d x : Nat} {M : qxM} {st : List Value} {a0 a1 a3 a4 : Option Value} {z : Int32} : Rs L xs (d) 298 15 [a0, a1, some (.int z), a3, a4] st M x = Rs L xs (d) 298 16 [a0, a1, some (.int z), a3, a4] (.int z :: st) M x := Rs_next c298_15 rfl
theorem c298_16 : qx_code 298 16 = some (16, .iand, 17, 0, 0, 0) := by decide +kernel
theorem s298_16 {L : Nat} {xs : Nat → Int32} {d x : Nat} {M : qxM} {st : List Value} {ls : qxL} {z y : Int32} : Rs L xs (d) 298 16 ls (.int y :: .int z :: st) M x = Rs L xs (d) 298 17 ls (.int (z &&& y) :: st) M x := Rs_next c298_16 rfl
theorem c298_17 : qx_code 298 17 = some (17, .istore_n 3, 18, 0, 0, 0) := by decide +kernel
theorem s298_17i {L : Nat} {xs : Nat → Int32} {d x : Nat} {M : qxM} {st : List Value} {a0 a1 a3 a4 : Option Value} {z : Int32} {y : Int32} : Rs L xs (d) 298 17 [a0, a1, some (.int y), a3, a4] (.int z :: st) M x = Rs L xs (d) 298 18 [a0, a1, some (.int y), some (.int z), a4] st M x := Rs_next c298_17 rfl
theorem s298_17r {L : Nat} {xs : Nat → Int32} {d x : Nat} {M : qxM} {st : List Value} {a0 a1 a3 a4 : Option Value} {z : Int32} {y : Nat} : Rs L xs (d) 298 17 [a0, a1, some (.ref y), a3, a4] (.int z :: st) M x = Rs L xs (d) 298 18 [a0, a1, some (.ref y), some (.int z), a4] st M x := Rs_next c298_17 rfl
theorem s298_17n {L : Nat} {xs : Nat → Int32} {d x : Nat} {M : qxM} {st : List Value} {a0 a1 a3 a4 : Option Value} {z : Int32} : Rs L xs (d) 298 17 [a0, a1, none, a3, a4] (.int z :: st) M x = Rs L xs (d) 298 18 [a0, a1, none, some (.int z), a4] st M x := Rs_next c298_17 rfl
theorem c298_18 : qx_code 298 18 = some (18, .iload_n 3, 19, 0, 0, 0) := by decide +kernel
theorem s298_18 {L : Nat} {xs : Nat → Int32} {d x : Nat} {M : qxM} {st : List Value} {a0 a1 a2 a4 : Option Value} {z : Int32} : Rs L xs (d) 298 18 [a0, a1, a2, some (.int z), a4] st M x = Rs L xs (d) 298 19 [a0, a1, a2, some (.int z), a4] (.int z :: st) M x := Rs_next c298_18 rfl
theorem c298_19 : qx_code 298 19 = some (19, .ifCond .eq 45, 22, 64, 0, 0) := by decide +kernel
theorem s298_19 {L : Nat} {xs : Nat → Int32} {d x : Nat} {M : qxM} {st : List Value} {ls : qxL} {z : Int32} : Rs L xs (d) 298 19 ls (.int z :: st) M x = if z = 0 then Rs L xs (d) 298 64 ls st M x else Rs L xs (d) 298 22 ls st M x := Rs_ite c298_19 rfl
theorem c298_22 : qx_code 298 22 = some (22, .iload_n 2, 23, 0, 0, 0) := by decide +kernel
theorem s298_22 {L : Nat} {xs : Nat → Int32} {d x : Nat} {M : qxM} {st : List Value} {a0 a1 a3 a4 : Option Value} {z : Int32} : Rs L xs (d) 298 22 [a0, a1, some (.int z), a3, a4] st M x = Rs L xs (d) 298 23 [a0, a1, some (.int z), a3, a4] (.int z :: st) M x := Rs_next c298_22 rfl
theorem c298_23 : qx_code 298 23 = some (23, .iload_n 3, 24, 0, 0, 0) := by decide +kernel
theorem s298_23 {L : Nat} {xs : Nat → Int32} {d x : Nat} {M : qxM} {st : List Value} {a0 a1 a2 a4 : Option Value} {z : Int32} : Rs L xs (d) 298 23 [a0, a1, a2, some (.int z), a4] st M x = Rs L xs (d) 298 24 [a0, a1, a2, some (.int z), a4] (.int z :: st) M x := Rs_next c298_23 rfl
theorem c298_24 : qx_code 298 24 = some (24, .iload_n 3, 25, 0, 0, 0) := by decide +kernel
theorem s298_24 {L : Nat} {xs : Nat → Int32} {d x : Nat} {M : qxM} {st : List Value} {a0 a1 a2 a4 : Option Value} {z : Int32} : Rs L xs (d) 298 24 [a0, a1, a2, some (.int z), a4] st M x = Rs L xs (d) 298 25 [a0, a1, a2, some (.int z), a4] (.int z :: st) M x := Rs_next c298_24 rfl
theorem c298_25 : qx_code 298 25 = some (25, .ineg, 26, 0, 0, 0) := by decide +kernel
theorem s298_25 {L : Nat} {xs : Nat → Int32} {d x : Nat} {M : qxM} {st : List Value} {ls : qxL} {z : Int32} : Rs L xs (d) 298 25 ls (.int z :: st) M x = Rs L xs (d) 298 26 ls (.int (-z) :: st) M x := Rs_next c298_25 rfl
theorem c298_26 : qx_code 298 26 = some (26, .iand, 27, 0, 0, 0) := by decide +kernel
theorem s298_26 {L : Nat} {xs : Nat → Int32} {d x : Nat} {M : qxM} {st : List Value} {ls : qxL} {z y : Int32} : Rs L xs (d) 298 26 ls (.int y :: .int z :: st) M x = Rs L xs (d) 298 27 ls (.int (z &&& y) :: st) M x := Rs_next c298_26 rfl
theorem c298_27 : qx_code 298 27 = some (27, .iconst (-1), 28, 0, 0, 0) := by decide +kernel
theorem s298_27 {L : Nat} {xs : Nat → Int32} {d x : Nat} {M : qxM} {st : List Value} {ls : qxL} : Rs L xs (d) 298 27 ls st M x = Rs L xs (d) 298 28 ls (.int (-1) :: st) M x := Rs_next c298_27 rfl
theorem c298_28 : qx_code 298 28 = some (28, .ixor, 29, 0, 0, 0) := by decide +kernel
theorem s298_28 {L : Nat} {xs : Nat → Int32} {d x : Nat} {M : qxM} {st : List Value} {ls : qxL} {z y : Int32} : Rs L xs (d) 298 28 ls (.int y :: .int z :: st) M x = Rs L xs (d) 298 29 ls (.int (z ^^^ y) :: st) M x := Rs_next c298_28 rfl
theorem c298_29 : qx_code 298 29 = some (29, .iand, 30, 0, 0, 0) := by decide +kernel
theorem s298_29 {L : Nat} {xs : Nat → Int32} {d x : Nat} {M : qxM} {st : List Value} {ls : qxL} {z y : Int32} : Rs L xs (d) 298 29 ls (.int y :: .int z :: st) M x = Rs L xs (d) 298 30 ls (.int (z &&& y) :: st) M x := Rs_next c298_29 rfl
theorem c298_30 : qx_code 298 30 = some (30, .istore 4, 32, 0, 0, 0) := by decide +kernel
theorem s298_30i {L : Nat} {xs : Nat → Int32} {d x : Nat} {M : qxM} {st : List Value} {a0 a1 a2 a4 : Option Value} {z : Int32} {y : Int32} : Rs L xs (d) 298 30 [a0, a1, a2, some (.int y), a4] (.int z :: st) M x = Rs L xs (d) 298 32 [a0, a1, a2, some (.int y), some (.int z)] st M x := Rs_next c298_30 rfl
theorem s298_30r {L : Nat} {xs : Nat → Int32} {d x : Nat} {M : qxM} {st : List Value} {a0 a1 a2 a4 : Option Value} {z : Int32} {y : Nat} : Rs L xs (d) 298 30 [a0, a1, a2, some (.ref y), a4] (.int z :: st) M x = Rs L xs (d) 298 32 [a0, a1, a2, some (.ref y), some (.int z)] st M x := Rs_next c298_30 rfl
theorem s298_30n {L : Nat} {xs : Nat → Int32} {d x : Nat} {M : qxM} {st : List Value} {a0 a1 a2 a4 : Option Value} {z : Int32} : Rs L xs (d) 298 30 [a0, a1, a2, none, a4] (.int z :: st) M x = Rs L xs (d) 298 32 [a0, a1, a2, none, some (.int z)] st M x := Rs_next c298_30 rfl
theorem c298_32 : qx_code 298 32 = some (32, .aload_n 0, 33, 0, 0, 0) := by decide +kernel
theorem s298_32 {L : Nat} {xs : Nat → Int32} {d x : Nat} {M : qxM} {st : List Value} {a1 a2 a3 a4 : Option Value} {z : Nat} : Rs L xs (d) 298 32 [some (.ref z), a1, a2, a3, a4] st M x = Rs L xs (d) 298 33 [some (.ref z), a1, a2, a3, a4] (.ref z :: st) M x := Rs_next c298_32 rfl
theorem c298_33 : qx_code 298 33 = some (33, .getfield 34, 36, 8, 17, 1562) := by decide +kernel
theorem s298_33 {L : Nat} {xs : Nat → Int32} {d x : Nat} {M : qxM} {st : List Value} {ls : qxL} {t : Nat} (hk : qx_kd t = 18) : Rs L xs (d) 298 33 ls (.ref t :: st) M x = Rs L xs (d) 298 36 ls (.ref (t + 7) :: st) M x := Rs_when (qx_kd_obj (k := 8) (by decide) hk) c298_33 rfl
theorem c298_36 : qx_code 298 36 = some (36, .iload 4, 38, 0, 0, 0) := by decide +kernel
theorem s298_36 {L : Nat} {xs : Nat → Int32} {d x : Nat} {M : qxM} {st : List Value} {a0 a1 a2 a3 : Option Value} {z : Int32} : Rs L xs (d) 298 36 [a0, a1, a2, a3, some (.int z)] st M x = Rs L xs (d) 298 38 [a0, a1, a2, a3, some (.int z)] (.int z :: st) M x := Rs_next c298_36 rfl
theorem c298_38 : qx_code 298 38 = some (38, .baload, 39, 0, 0, 0) := by decide +kernel
theorem s298_38 {L : Nat} {xs : Nat → Int32} {d x : Nat} {M : qxM} {st : List Value} {ls : qxL} {t : Nat} {j : Int32} (hk : qx_kd t = 1) (hj : qx_ib j (qx_ln t) = true) : Rs L xs (d) 298 38 ls (.int j :: .ref t :: st) M x = Rs L xs (d) 298 39 ls (.int (M.1 t j.toNatClampNeg) :: st) M x := by
  have h1 := qx_kd_row (k := 1) (by decide) hk
  exact Rs_unless (qx_ib_not hj) c298_38 (by unfold qx_act; dsimp only; rw [h1]; rfl)
theorem s298_38z {L : Nat} {xs : Nat → Int32} {d x : Nat} {M : qxM} {st : List Value} {ls : qxL} {t : Nat} {j : Int32} (hk : qx_kd t = 2) (hj : qx_ib j (qx_ln t) = true) : Rs L xs (d) 298 38 ls (.int j :: .ref t :: st) M x = Rs L xs (d) 298 39 ls (.int (M.1 t j.toNatClampNeg) :: st) M x := by
  have h1 := qx_kd_row (k := 2) (by decide) hk
  exact Rs_unless (qx_ib_not hj) c298_38 (by unfold qx_act; dsimp only; rw [h1]; rfl)
theorem c298_39 : qx_code 298 39 = some (39, .iconst 1, 40, 0, 0, 0) := by decide +kernel
theorem s298_39 {L : Nat} {xs : Nat → Int32} {d x : Nat} {M : qxM} {st : List Value} {ls : qxL} : Rs L xs (d) 298 39 ls st M x = Rs L xs (d) 298 40 ls (.int (nI 1) :: st) M x := Rs_next c298_39 rfl
theorem c298_40 : qx_code 298 40 = some (40, .iadd, 41, 0, 0, 0) := by decide +kernel
theorem s298_40 {L : Nat} {xs : Nat → Int32} {d x : Nat} {M : qxM} {st : List Value} {ls : qxL} {z y : Int32} : Rs L xs (d) 298 40 ls (.int y :: .int z :: st) M x = Rs L xs (d) 298 41 ls (.int (z + y) :: st) M x := Rs_next c298_40 rfl
theorem c298_41 : qx_code 298 41 = some (41, .aload_n 0, 42, 0, 0, 0) := by decide +kernel
theorem s298_41 {L : Nat} {xs : Nat → Int32} {d x : Nat} {M : qxM} {st : List Value} {a1 a2 a3 a4 : Option Value} {z : Nat} : Rs L xs (d) 298 41 [some (.ref z), a1, a2, a3, a4] st M x = Rs L xs (d) 298 42 [some (.ref z), a1, a2, a3, a4] (.ref z :: st) M x := Rs_next c298_41 rfl
theorem c298_42 : qx_code 298 42 = some (42, .getfield 34, 45, 8, 17, 1562) := by decide +kernel
theorem s298_42 {L : Nat} {xs : Nat → Int32} {d x : Nat} {M : qxM} {st : List Value} {ls : qxL} {t : Nat} (hk : qx_kd t = 18) : Rs L xs (d) 298 42 ls (.ref t :: st) M x = Rs L xs (d) 298 45 ls (.ref (t + 7) :: st) M x := Rs_when (qx_kd_obj (k := 8) (by decide) hk) c298_42 rfl
theorem c298_45 : qx_code 298 45 = some (45, .iload_n 1, 46, 0, 0, 0) := by decide +kernel
theorem s298_45 {L : Nat} {xs : Nat → Int32} {d x : Nat} {M : qxM} {st : List Value} {a0 a2 a3 a4 : Option Value} {z : Int32} : Rs L xs (d) 298 45 [a0, some (.int z), a2, a3, a4] st M x = Rs L xs (d) 298 46 [a0, some (.int z), a2, a3, a4] (.int z :: st) M x := Rs_next c298_45 rfl
theorem c298_46 : qx_code 298 46 = some (46, .baload, 47, 0, 0, 0) := by decide +kernel
theorem s298_46 {L : Nat} {xs : Nat → Int32} {d x : Nat} {M : qxM} {st : List Value} {ls : qxL} {t : Nat} {j : Int32} (hk : qx_kd t = 1) (hj : qx_ib j (qx_ln t) = true) : Rs L xs (d) 298 46 ls (.int j :: .ref t :: st) M x = Rs L xs (d) 298 47 ls (.int (M.1 t j.toNatClampNeg) :: st) M x := by
  have h1 := qx_kd_row (k := 1) (by decide) hk
  exact Rs_unless (qx_ib_not hj) c298_46 (by unfold qx_act; dsimp only; rw [h1]; rfl)
theorem s298_46z {L : Nat} {xs : Nat → Int32} {d x : Nat} {M : qxM} {st : List Value} {ls : qxL} {t : Nat} {j : Int32} (hk : qx_kd t = 2) (hj : qx_ib j (qx_ln t) = true) : Rs L xs (d) 298 46 ls (.int j :: .ref t :: st) M x = Rs L xs (d) 298 47 ls (.int (M.1 t j.toNatClampNeg) :: st) M x := by
  have h1 := qx_kd_row (k := 2) (by decide) hk
  exact Rs_unless (qx_ib_not hj) c298_46 (by unfold qx_act; dsimp only; rw [h1]; rfl)
theorem c298_47 : qx_code 298 47 = some (47, .if_icmp .ne 8, 50, 55, 0, 0) := by decide +kernel
theorem s298_47 {L : Nat} {xs : Nat → Int32} {d x : Nat} {M : qxM} {st : List Value} {ls : qxL} {z y : Int32} : Rs L xs (d) 298 47 ls (.int y :: .int z :: st) M x = if z = y then Rs L xs (d) 298 50 ls st M x else Rs L xs (d) 298 55 ls st M x := Rs_ite c298_47 rfl
theorem c298_50 : qx_code 298 50 = some (50, .iload_n 3, 51, 0, 0, 0) := by decide +kernel
theorem s298_50 {L : Nat} {xs : Nat → Int32} {d x : Nat} {M : qxM} {st : List Value} {a0 a1 a2 a4 : Option Value} {z : Int32} : Rs L xs (d) 298 50 [a0, a1, a2, some (.int z), a4] st M x = Rs L xs (d) 298 51 [a0, a1, a2, some (.int z), a4] (.int z :: st) M x := Rs_next c298_50 rfl
theorem c298_51 : qx_code 298 51 = some (51, .invokestatic 235, 54, 210, 1, 1823) := by decide +kernel
theorem s298_51 {L : Nat} {xs : Nat → Int32} {d x : Nat} {M : qxM} {st : List Value} {ls : qxL} {z0 : Int32} (hs : st.length ≤ 4) : Rs L xs (d + 1) 298 51 ls (.int z0 :: st) M x = (Rs L xs d 210 0 [some (.int z0)] [] M 0).bind (qx_kn L xs (d + 1) 298 51 54 210 ls st x) := by
  have h1 : qx_act L xs (qx_rt 298) (51, .invokestatic 235, 54, 210, 1, 1823) ls (.int z0 :: st) M = if 1 ≤ (.int z0 :: st).length ∧ st.length ≤ 4 then some (.inr (.inr (.inr (210, [.int z0], st)))) else none := rfl
  rw [if_pos ⟨by simp [List.length_cons]; try omega, hs⟩] at h1
  exact Rs_call c298_51 h1 rfl
theorem c298_54 : qx_code 298 54 = some (54, .ireturn, 55, 0, 0, 0) := by decide +kernel
theorem s298_54 {L : Nat} {xs : Nat → Int32} {d x : Nat} {M : qxM} {ls : qxL} {z : Int32} : Rs L xs (d) 298 54 ls [.int z] M x = some (.inl (some (.int z)), M, x) := Rs_ret c298_54 rfl
theorem c298_55 : qx_code 298 55 = some (55, .iload_n 3, 56, 0, 0, 0) := by decide +kernel
theorem s298_55 {L : Nat} {xs : Nat → Int32} {d x : Nat} {M : qxM} {st : List Value} {a0 a1 a2 a4 : Option Value} {z : Int32} : Rs L xs (d) 298 55 [a0, a1, a2, some (.int z), a4] st M x = Rs L xs (d) 298 56 [a0, a1, a2, some (.int z), a4] (.int z :: st) M x := Rs_next c298_55 rfl
theorem c298_56 : qx_code 298 56 = some (56, .iload_n 3, 57, 0, 0, 0) := by decide +kernel
theorem s298_56 {L : Nat} {xs : Nat → Int32} {d x : Nat} {M : qxM} {st : List Value} {a0 a1 a2 a4 : Option Value} {z : Int32} : Rs L xs (d) 298 56 [a0, a1, a2, some (.int z), a4] st M x = Rs L xs (d) 298 57 [a0, a1, a2, some (.int z), a4] (.int z :: st) M x := Rs_next c298_56 rfl
theorem c298_57 : qx_code 298 57 = some (57, .iconst 1, 58, 0, 0, 0) := by decide +kernel
theorem s298_57 {L : Nat} {xs : Nat → Int32} {d x : Nat} {M : qxM} {st : List Value} {ls : qxL} : Rs L xs (d) 298 57 ls st M x = Rs L xs (d) 298 58 ls (.int (nI 1) :: st) M x := Rs_next c298_57 rfl
theorem c298_58 : qx_code 298 58 = some (58, .isub, 59, 0, 0, 0) := by decide +kernel
theorem s298_58 {L : Nat} {xs : Nat → Int32} {d x : Nat} {M : qxM} {st : List Value} {ls : qxL} {z y : Int32} : Rs L xs (d) 298 58 ls (.int y :: .int z :: st) M x = Rs L xs (d) 298 59 ls (.int (z - y) :: st) M x := Rs_next c298_58 rfl
theorem c298_59 : qx_code 298 59 = some (59, .iand, 60, 0, 0, 0) := by decide +kernel
theorem s298_59 {L : Nat} {xs : Nat → Int32} {d x : Nat} {M : qxM} {st : List Value} {ls : qxL} {z y : Int32} : Rs L xs (d) 298 59 ls (.int y :: .int z :: st) M x = Rs L xs (d) 298 60 ls (.int (z &&& y) :: st) M x := Rs_next c298_59 rfl
theorem c298_60 : qx_code 298 60 = some (60, .istore_n 3, 61, 0, 0, 0) := by decide +kernel
theorem s298_60i {L : Nat} {xs : Nat → Int32} {d x : Nat} {M : qxM} {st : List Value} {a0 a1 a3 a4 : Option Value} {z : Int32} {y : Int32} : Rs L xs (d) 298 60 [a0, a1, some (.int y), a3, a4] (.int z :: st) M x = Rs L xs (d) 298 61 [a0, a1, some (.int y), some (.int z), a4] st M x := Rs_next c298_60 rfl
theorem s298_60r {L : Nat} {xs : Nat → Int32} {d x : Nat} {M : qxM} {st : List Value} {a0 a1 a3 a4 : Option Value} {z : Int32} {y : Nat} : Rs L xs (d) 298 60 [a0, a1, some (.ref y), a3, a4] (.int z :: st) M x = Rs L xs (d) 298 61 [a0, a1, some (.ref y), some (.int z), a4] st M x := Rs_next c298_60 rfl
theorem s298_60n {L : Nat} {xs : Nat → Int32} {d x : Nat} {M : qxM} {st : List Value} {a0 a1 a3 a4 : Option Value} {z : Int32} : Rs L xs (d) 298 60 [a0, a1, none, a3, a4] (.int z :: st) M x = Rs L xs (d) 298 61 [a0, a1, none, some (.int z), a4] st M x := Rs_next c298_60 rfl
theorem c298_61 : qx_code 298 61 = some (61, .goto (-43), 64, 18, 0, 0) := by decide +kernel
theorem s298_61 {L : Nat} {xs : Nat → Int32} {d x : Nat} {M : qxM} {st : List Value} {ls : qxL} : Rs L xs (d) 298 61 ls st M x = Rs L xs (d) 298 18 ls st M x := Rs_next c298_61 rfl
theorem c298_64 : qx_code 298 64 = some (64, .iconst (-1), 65, 0, 0, 0) := by decide +kernel
theorem s298_64 {L : Nat} {xs : Nat → Int32} {d x : Nat} {M : qxM} {st : List Value} {ls : qxL} : Rs L xs (d) 298 64 ls st M x = Rs L xs (d) 298 65 ls (.int (-1) :: st) M x := Rs_next c298_64 rfl
theorem c298_65 : qx_code 298 65 = some (65, .ireturn, 66, 0, 0, 0) := by decide +kernel
theorem s298_65 {L : Nat} {xs : Nat → Int32} {d x : Nat} {M : qxM} {ls : qxL} {z : Int32} : Rs L xs (d) 298 65 ls [.int z] M x = some (.inl (some (.int z)), M, x) := Rs_ret c298_65 rfl
theorem c299_0 : qx_code 299 0 = some (0, .aload_n 0, 1, 0, 0, 0) := by decide +kernel
theorem s299_0 {L : Nat} {xs : Nat → Int32} {d x : Nat} {M : qxM} {st : List Value} {a1 a2 a3 a4 a5 : Option Value} {z : Nat} : Rs L xs (d) 299 0 [some (.ref z), a1, a2, a3, a4, a5] st M x = Rs L xs (d) 299 1 [some (.ref z), a1, a2, a3, a4, a5] (.ref z :: st) M x := Rs_next c299_0 rfl
theorem c299_1 : qx_code 299 1 = some (1, .iload_n 1, 2, 0, 0, 0) := by decide +kernel
theorem s299_1 {L : Nat} {xs : Nat → Int32} {d x : Nat} {M : qxM} {st : List Value} {a0 a2 a3 a4 a5 : Option Value} {z : Int32} : Rs L xs (d) 299 1 [a0, some (.int z), a2, a3, a4, a5] st M x = Rs L xs (d) 299 2 [a0, some (.int z), a2, a3, a4, a5] (.int z :: st) M x := Rs_next c299_1 rfl
theorem c299_2 : qx_code 299 2 = some (2, .invokevirtual 232, 5, 226, 2, 1819) := by decide +kernel
theorem s299_2 {L : Nat} {xs : Nat → Int32} {d x : Nat} {M : qxM} {st : List Value} {ls : qxL} {t : Nat} {z0 : Int32} (hk : qx_kd t = 18) (hs : st.length ≤ 4) : Rs L xs (d + 1) 299 2 ls (.int z0 :: .ref t :: st) M x = (Rs L xs d 226 0 [some (.ref t), some (.int z0)] [] M 0).bind (qx_kn L xs (d + 1) 299 2 5 226 ls st x) := by
  have h1 : qx_act L xs (qx_rt 299) (2, .invokevirtual 232, 5, 226, 2, 1819) ls (.int z0 :: .ref t :: st) M = if 2 ≤ (.int z0 :: .ref t :: st).length ∧ st.length ≤ 4 then some (.inr (.inr (.inr (226, [.ref t, .int z0], st)))) else none := rfl
  rw [if_pos ⟨by simp [List.length_cons]; try omega, hs⟩] at h1
  have h2 := qx_kd_obj (k := 8) (by decide) hk
  exact Rs_call c299_2 h1 (by rw [show qx_args 226 [.ref t, .int z0] = decide (qx_sh t = some (.inl 8)) from rfl]; exact decide_eq_true h2)
theorem c299_5 : qx_code 299 5 = some (5, .ifCond .ne 5, 8, 10, 0, 0) := by decide +kernel
theorem s299_5 {L : Nat} {xs : Nat → Int32} {d x : Nat} {M : qxM} {st : List Value} {ls : qxL} {z : Int32} : Rs L xs (d) 299 5 ls (.int z :: st) M x = if z = 0 then Rs L xs (d) 299 8 ls st M x else Rs L xs (d) 299 10 ls st M x := Rs_ite c299_5 rfl
theorem c299_8 : qx_code 299 8 = some (8, .iconst 0, 9, 0, 0, 0) := by decide +kernel
theorem s299_8 {L : Nat} {xs : Nat → Int32} {d x : Nat} {M : qxM} {st : List Value} {ls : qxL} : Rs L xs (d) 299 8 ls st M x = Rs L xs (d) 299 9 ls (.int (nI 0) :: st) M x := Rs_next c299_8 rfl
theorem c299_9 : qx_code 299 9 = some (9, .ireturn, 10, 0, 0, 0) := by decide +kernel
theorem s299_9 {L : Nat} {xs : Nat → Int32} {d x : Nat} {M : qxM} {ls : qxL} {z : Int32} : Rs L xs (d) 299 9 ls [.int z] M x = some (.inl (some (.int z)), M, x) := Rs_ret c299_9 rfl
theorem c299_10 : qx_code 299 10 = some (10, .aload_n 0, 11, 0, 0, 0) := by decide +kernel
theorem s299_10 {L : Nat} {xs : Nat → Int32} {d x : Nat} {M : qxM} {st : List Value} {a1 a2 a3 a4 a5 : Option Value} {z : Nat} : Rs L xs (d) 299 10 [some (.ref z), a1, a2, a3, a4, a5] st M x = Rs L xs (d) 299 11 [some (.ref z), a1, a2, a3, a4, a5] (.ref z :: st) M x := Rs_next c299_10 rfl
theorem c299_11 : qx_code 299 11 = some (11, .invokevirtual 318, 14, 271, 1, 1922) := by decide +kernel
theorem s299_11 {L : Nat} {xs : Nat → Int32} {d x : Nat} {M : qxM} {st : List Value} {ls : qxL} {t : Nat} (hk : qx_kd t = 18) (hs : st.length ≤ 4) : Rs L xs (d + 1) 299 11 ls (.ref t :: st) M x = (Rs L xs d 271 0 [some (.ref t), none] [] M 0).bind (qx_kn L xs (d + 1) 299 11 14 271 ls st x) := by
  have h1 : qx_act L xs (qx_rt 299) (11, .invokevirtual 318, 14, 271, 1, 1922) ls (.ref t :: st) M = if 1 ≤ (.ref t :: st).length ∧ st.length ≤ 4 then some (.inr (.inr (.inr (271, [.ref t], st)))) else none := rfl
  rw [if_pos ⟨by simp [List.length_cons]; try omega, hs⟩] at h1
  have h2 := qx_kd_obj (k := 8) (by decide) hk
  exact Rs_call c299_11 h1 (by rw [show qx_args 271 [.ref t] = decide (qx_sh t = some (.inl 8)) from rfl]; exact decide_eq_true h2)
theorem c299_14 : qx_code 299 14 = some (14, .istore_n 2, 15, 0, 0, 0) := by decide +kernel
theorem s299_14i {L : Nat} {xs : Nat → Int32} {d x : Nat} {M : qxM} {st : List Value} {a0 a2 a3 a4 a5 : Option Value} {z : Int32} {y : Int32} : Rs L xs (d) 299 14 [a0, some (.int y), a2, a3, a4, a5] (.int z :: st) M x = Rs L xs (d) 299 15 [a0, some (.int y), some (.int z), a3, a4, a5] st M x := Rs_next c299_14 rfl
theorem s299_14r {L : Nat} {xs : Nat → Int32} {d x : Nat} {M : qxM} {st : List Value} {a0 a2 a3 a4 a5 : Option Value} {z : Int32} {y : Nat} : Rs L xs (d) 299 14 [a0, some (.ref y), a2, a3, a4, a5] (.int z :: st) M x = Rs L xs (d) 299 15 [a0, some (.ref y), some (.int z), a3, a4, a5] st M x := Rs_next c299_14 rfl
theorem s299_14n {L : Nat} {xs : Nat → Int32} {d x : Nat} {M : qxM} {st : List Value} {a0 a2 a3 a4 a5 : Option Value} {z : Int32} : Rs L xs (d) 299 14 [a0, none, a2, a3, a4, a5] (.int z :: st) M x = Rs L xs (d) 299 15 [a0, none, some (.int z), a3, a4, a5] st M x := Rs_next c299_14 rfl
theorem c299_15 : qx_code 299 15 = some (15, .aload_n 0, 16, 0, 0, 0) := by decide +kernel
theorem s299_15 {L : Nat} {xs : Nat → Int32} {d x : Nat} {M : qxM} {st : List Value} {a1 a2 a3 a4 a5 : Option Value} {z : Nat} : Rs L xs (d) 299 15 [some (.ref z), a1, a2, a3, a4, a5] st M x = Rs L xs (d) 299 16 [some (.ref z), a1, a2, a3, a4, a5] (.ref z :: st) M x := Rs_next c299_15 rfl
theorem c299_16 : qx_code 299 16 = some (16, .invokevirtual 312, 19, 212, 1, 1926) := by decide +kernel
theorem s299_16 {L : Nat} {xs : Nat → Int32} {d x : Nat} {M : qxM} {st : List Value} {ls : qxL} {t : Nat} (hk : qx_kd t = 18) (hs : st.length ≤ 4) : Rs L xs (d + 1) 299 16 ls (.ref t :: st) M x = (Rs L xs d 212 0 [some (.ref t)] [] M 0).bind (qx_kn L xs (d + 1) 299 16 19 212 ls st x) := by
  have h1 : qx_act L xs (qx_rt 299) (16, .invokevirtual 312, 19, 212, 1, 1926) ls (.ref t :: st) M = if 1 ≤ (.ref t :: st).length ∧ st.length ≤ 4 then some (.inr (.inr (.inr (212, [.ref t], st)))) else none := rfl
  rw [if_pos ⟨by simp [List.length_cons]; try omega, hs⟩] at h1
  have h2 := qx_kd_obj (k := 8) (by decide) hk
  exact Rs_call c299_16 h1 (by rw [show qx_args 212 [.ref t] = decide (qx_sh t = some (.inl 8)) from rfl]; exact decide_eq_true h2)
theorem c299_19 : qx_code 299 19 = some (19, .istore_n 3, 20, 0, 0, 0) := by decide +kernel
theorem s299_19i {L : Nat} {xs : Nat → Int32} {d x : Nat} {M : qxM} {st : List Value} {a0 a1 a3 a4 a5 : Option Value} {z : Int32} {y : Int32} : Rs L xs (d) 299 19 [a0, a1, some (.int y), a3, a4, a5] (.int z :: st) M x = Rs L xs (d) 299 20 [a0, a1, some (.int y), some (.int z), a4, a5] st M x := Rs_next c299_19 rfl
theorem s299_19r {L : Nat} {xs : Nat → Int32} {d x : Nat} {M : qxM} {st : List Value} {a0 a1 a3 a4 a5 : Option Value} {z : Int32} {y : Nat} : Rs L xs (d) 299 19 [a0, a1, some (.ref y), a3, a4, a5] (.int z :: st) M x = Rs L xs (d) 299 20 [a0, a1, some (.ref y), some (.int z), a4, a5] st M x := Rs_next c299_19 rfl
theorem s299_19n {L : Nat} {xs : Nat → Int32} {d x : Nat} {M : qxM} {st : List Value} {a0 a1 a3 a4 a5 : Option Value} {z : Int32} : Rs L xs (d) 299 19 [a0, a1, none, a3, a4, a5] (.int z :: st) M x = Rs L xs (d) 299 20 [a0, a1, none, some (.int z), a4, a5] st M x := Rs_next c299_19 rfl
theorem c299_20 : qx_code 299 20 = some (20, .iload_n 3, 21, 0, 0, 0) := by decide +kernel
theorem s299_20 {L : Nat} {xs : Nat → Int32} {d x : Nat} {M : qxM} {st : List Value} {a0 a1 a2 a4 a5 : Option Value} {z : Int32} : Rs L xs (d) 299 20 [a0, a1, a2, some (.int z), a4, a5] st M x = Rs L xs (d) 299 21 [a0, a1, a2, some (.int z), a4, a5] (.int z :: st) M x := Rs_next c299_20 rfl
theorem c299_21 : qx_code 299 21 = some (21, .ifCond .eq 69, 24, 90, 0, 0) := by decide +kernel
theorem s299_21 {L : Nat} {xs : Nat → Int32} {d x : Nat} {M : qxM} {st : List Value} {ls : qxL} {z : Int32} : Rs L xs (d) 299 21 ls (.int z :: st) M x = if z = 0 then Rs L xs (d) 299 90 ls st M x else Rs L xs (d) 299 24 ls st M x := Rs_ite c299_21 rfl
theorem c299_24 : qx_code 299 24 = some (24, .iload_n 3, 25, 0, 0, 0) := by decide +kernel
theorem s299_24 {L : Nat} {xs : Nat → Int32} {d x : Nat} {M : qxM} {st : List Value} {a0 a1 a2 a4 a5 : Option Value} {z : Int32} : Rs L xs (d) 299 24 [a0, a1, a2, some (.int z), a4, a5] st M x = Rs L xs (d) 299 25 [a0, a1, a2, some (.int z), a4, a5] (.int z :: st) M x := Rs_next c299_24 rfl
theorem c299_25 : qx_code 299 25 = some (25, .invokestatic 235, 28, 210, 1, 1823) := by decide +kernel
theorem s299_25 {L : Nat} {xs : Nat → Int32} {d x : Nat} {M : qxM} {st : List Value} {ls : qxL} {z0 : Int32} (hs : st.length ≤ 4) : Rs L xs (d + 1) 299 25 ls (.int z0 :: st) M x = (Rs L xs d 210 0 [some (.int z0)] [] M 0).bind (qx_kn L xs (d + 1) 299 25 28 210 ls st x) := by
  have h1 : qx_act L xs (qx_rt 299) (25, .invokestatic 235, 28, 210, 1, 1823) ls (.int z0 :: st) M = if 1 ≤ (.int z0 :: st).length ∧ st.length ≤ 4 then some (.inr (.inr (.inr (210, [.int z0], st)))) else none := rfl
  rw [if_pos ⟨by simp [List.length_cons]; try omega, hs⟩] at h1
  exact Rs_call c299_25 h1 rfl
theorem c299_28 : qx_code 299 28 = some (28, .istore 4, 30, 0, 0, 0) := by decide +kernel
theorem s299_28i {L : Nat} {xs : Nat → Int32} {d x : Nat} {M : qxM} {st : List Value} {a0 a1 a2 a4 a5 : Option Value} {z : Int32} {y : Int32} : Rs L xs (d) 299 28 [a0, a1, a2, some (.int y), a4, a5] (.int z :: st) M x = Rs L xs (d) 299 30 [a0, a1, a2, some (.int y), some (.int z), a5] st M x := Rs_next c299_28 rfl
theorem s299_28r {L : Nat} {xs : Nat → Int32} {d x : Nat} {M : qxM} {st : List Value} {a0 a1 a2 a4 a5 : Option Value} {z : Int32} {y : Nat} : Rs L xs (d) 299 28 [a0, a1, a2, some (.ref y), a4, a5] (.int z :: st) M x = Rs L xs (d) 299 30 [a0, a1, a2, some (.ref y), some (.int z), a5] st M x := Rs_next c299_28 rfl
theorem s299_28n {L : Nat} {xs : Nat → Int32} {d x : Nat} {M : qxM} {st : List Value} {a0 a1 a2 a4 a5 : Option Value} {z : Int32} : Rs L xs (d) 299 28 [a0, a1, a2, none, a4, a5] (.int z :: st) M x = Rs L xs (d) 299 30 [a0, a1, a2, none, some (.int z), a5] st M x := Rs_next c299_28 rfl
theorem c299_30 : qx_code 299 30 = some (30, .aload_n 0, 31, 0, 0, 0) := by decide +kernel
theorem s299_30 {L : Nat} {xs : Nat → Int32} {d x : Nat} {M : qxM} {st : List Value} {a1 a2 a3 a4 a5 : Option Value} {z : Nat} : Rs L xs (d) 299 30 [some (.ref z), a1, a2, a3, a4, a5] st M x = Rs L xs (d) 299 31 [some (.ref z), a1, a2, a3, a4, a5] (.ref z :: st) M x := Rs_next c299_30 rfl
theorem c299_31 : qx_code 299 31 = some (31, .iload_n 3, 32, 0, 0, 0) := by decide +kernel
theorem s299_31 {L : Nat} {xs : Nat → Int32} {d x : Nat} {M : qxM} {st : List Value} {a0 a1 a2 a4 a5 : Option Value} {z : Int32} : Rs L xs (d) 299 31 [a0, a1, a2, some (.int z), a4, a5] st M x = Rs L xs (d) 299 32 [a0, a1, a2, some (.int z), a4, a5] (.int z :: st) M x := Rs_next c299_31 rfl
theorem c299_32 : qx_code 299 32 = some (32, .invokevirtual 354, 35, 298, 2, 2038) := by decide +kernel
theorem s299_32 {L : Nat} {xs : Nat → Int32} {d x : Nat} {M : qxM} {st : List Value} {ls : qxL} {t : Nat} {z0 : Int32} (hk : qx_kd t = 18) (hs : st.length ≤ 4) : Rs L xs (d + 1) 299 32 ls (.int z0 :: .ref t :: st) M x = (Rs L xs d 298 0 [some (.ref t), some (.int z0), none, none, none] [] M 0).bind (qx_kn L xs (d + 1) 299 32 35 298 ls st x) := by
  have h1 : qx_act L xs (qx_rt 299) (32, .invokevirtual 354, 35, 298, 2, 2038) ls (.int z0 :: .ref t :: st) M = if 2 ≤ (.int z0 :: .ref t :: st).length ∧ st.length ≤ 4 then some (.inr (.inr (.inr (298, [.ref t, .int z0], st)))) else none := rfl
  rw [if_pos ⟨by simp [List.length_cons]; try omega, hs⟩] at h1
  have h2 := qx_kd_obj (k := 8) (by decide) hk
  exact Rs_call c299_32 h1 (by rw [show qx_args 298 [.ref t, .int z0] = decide (qx_sh t = some (.inl 8)) from rfl]; exact decide_eq_true h2)
theorem c299_35 : qx_code 299 35 = some (35, .istore 5, 37, 0, 0, 0) := by decide +kernel
theorem s299_35i {L : Nat} {xs : Nat → Int32} {d x : Nat} {M : qxM} {st : List Value} {a0 a1 a2 a3 a5 : Option Value} {z : Int32} {y : Int32} : Rs L xs (d) 299 35 [a0, a1, a2, a3, some (.int y), a5] (.int z :: st) M x = Rs L xs (d) 299 37 [a0, a1, a2, a3, some (.int y), some (.int z)] st M x := Rs_next c299_35 rfl
theorem s299_35r {L : Nat} {xs : Nat → Int32} {d x : Nat} {M : qxM} {st : List Value} {a0 a1 a2 a3 a5 : Option Value} {z : Int32} {y : Nat} : Rs L xs (d) 299 35 [a0, a1, a2, a3, some (.ref y), a5] (.int z :: st) M x = Rs L xs (d) 299 37 [a0, a1, a2, a3, some (.ref y), some (.int z)] st M x := Rs_next c299_35 rfl
theorem s299_35n {L : Nat} {xs : Nat → Int32} {d x : Nat} {M : qxM} {st : List Value} {a0 a1 a2 a3 a5 : Option Value} {z : Int32} : Rs L xs (d) 299 35 [a0, a1, a2, a3, none, a5] (.int z :: st) M x = Rs L xs (d) 299 37 [a0, a1, a2, a3, none, some (.int z)] st M x := Rs_next c299_35 rfl
theorem c299_37 : qx_code 299 37 = some (37, .iload 4, 39, 0, 0, 0) := by decide +kernel
theorem s299_37 {L : Nat} {xs : Nat → Int32} {d x : Nat} {M : qxM} {st : List Value} {a0 a1 a2 a3 a5 : Option Value} {z : Int32} : Rs L xs (d) 299 37 [a0, a1, a2, a3, some (.int z), a5] st M x = Rs L xs (d) 299 39 [a0, a1, a2, a3, some (.int z), a5] (.int z :: st) M x := Rs_next c299_37 rfl
theorem c299_39 : qx_code 299 39 = some (39, .iload_n 1, 40, 0, 0, 0) := by decide +kernel
theorem s299_39 {L : Nat} {xs : Nat → Int32} {d x : Nat} {M : qxM} {st : List Value} {a0 a2 a3 a4 a5 : Option Value} {z : Int32} : Rs L xs (d) 299 39 [a0, some (.int z), a2, a3, a4, a5] st M x = Rs L xs (d) 299 40 [a0, some (.int z), a2, a3, a4, a5] (.int z :: st) M x := Rs_next c299_39 rfl
theorem c299_40 : qx_code 299 40 = some (40, .if_icmp .eq 9, 43, 49, 0, 0) := by decide +kernel
theorem s299_40 {L : Nat} {xs : Nat → Int32} {d x : Nat} {M : qxM} {st : List Value} {ls : qxL} {z y : Int32} : Rs L xs (d) 299 40 ls (.int y :: .int z :: st) M x = if z = y then Rs L xs (d) 299 49 ls st M x else Rs L xs (d) 299 43 ls st M x := Rs_ite c299_40 rfl
theorem c299_43 : qx_code 299 43 = some (43, .iload 5, 45, 0, 0, 0) := by decide +kernel
theorem s299_43 {L : Nat} {xs : Nat → Int32} {d x : Nat} {M : qxM} {st : List Value} {a0 a1 a2 a3 a4 : Option Value} {z : Int32} : Rs L xs (d) 299 43 [a0, a1, a2, a3, a4, some (.int z)] st M x = Rs L xs (d) 299 45 [a0, a1, a2, a3, a4, some (.int z)] (.int z :: st) M x := Rs_next c299_43 rfl
theorem c299_45 : qx_code 299 45 = some (45, .iload_n 1, 46, 0, 0, 0) := by decide +kernel
theorem s299_45 {L : Nat} {xs : Nat → Int32} {d x : Nat} {M : qxM} {st : List Value} {a0 a2 a3 a4 a5 : Option Value} {z : Int32} : Rs L xs (d) 299 45 [a0, some (.int z), a2, a3, a4, a5] st M x = Rs L xs (d) 299 46 [a0, some (.int z), a2, a3, a4, a5] (.int z :: st) M x := Rs_next c299_45 rfl
theorem c299_46 : qx_code 299 46 = some (46, .if_icmp .ne 17, 49, 63, 0, 0) := by decide +kernel
theorem s299_46 {L : Nat} {xs : Nat → Int32} {d x : Nat} {M : qxM} {st : List Value} {ls : qxL} {z y : Int32} : Rs L xs (d) 299 46 ls (.int y :: .int z :: st) M x = if z = y then Rs L xs (d) 299 49 ls st M x else Rs L xs (d) 299 63 ls st M x := Rs_ite c299_46 rfl
theorem c299_49 : qx_code 299 49 = some (49, .iload 4, 51, 0, 0, 0) := by decide +kernel
theorem s299_49 {L : Nat} {xs : Nat → Int32} {d x : Nat} {M : qxM} {st : List Value} {a0 a1 a2 a3 a5 : Option Value} {z : Int32} : Rs L xs (d) 299 49 [a0, a1, a2, a3, some (.int z), a5] st M x = Rs L xs (d) 299 51 [a0, a1, a2, a3, some (.int z), a5] (.int z :: st) M x := Rs_next c299_49 rfl
theorem c299_51 : qx_code 299 51 = some (51, .iload_n 1, 52, 0, 0, 0) := by decide +kernel
theorem s299_51 {L : Nat} {xs : Nat → Int32} {d x : Nat} {M : qxM} {st : List Value} {a0 a2 a3 a4 a5 : Option Value} {z : Int32} : Rs L xs (d) 299 51 [a0, some (.int z), a2, a3, a4, a5] st M x = Rs L xs (d) 299 52 [a0, some (.int z), a2, a3, a4, a5] (.int z :: st) M x := Rs_next c299_51 rfl
theorem c299_52 : qx_code 299 52 = some (52, .if_icmp .ne 8, 55, 60, 0, 0) := by decide +kernel
theorem s299_52 {L : Nat} {xs : Nat → Int32} {d x : Nat} {M : qxM} {st : List Value} {ls : qxL} {z y : Int32} : Rs L xs (d) 299 52 ls (.int y :: .int z :: st) M x = if z = y then Rs L xs (d) 299 55 ls st M x else Rs L xs (d) 299 60 ls st M x := Rs_ite c299_52 rfl
theorem c299_55 : qx_code 299 55 = some (55, .iload 5, 57, 0, 0, 0) := by decide +kernel
theorem s299_55 {L : Nat} {xs : Nat → Int32} {d x : Nat} {M : qxM} {st : List Value} {a0 a1 a2 a3 a4 : Option Value} {z : Int32} : Rs L xs (d) 299 55 [a0, a1, a2, a3, a4, some (.int z)] st M x = Rs L xs (d) 299 57 [a0, a1, a2, a3, a4, some (.int z)] (.int z :: st) M x := Rs_next c299_55 rfl
theorem c299_57 : qx_code 299 57 = some (57, .goto 5, 60, 62, 0, 0) := by decide +kernel
theorem s299_57 {L : Nat} {xs : Nat → Int32} {d x : Nat} {M : qxM} {st : List Value} {ls : qxL} : Rs L xs (d) 299 57 ls st M x = Rs L xs (d) 299 62 ls st M x := Rs_next c299_57 rfl
theorem c299_60 : qx_code 299 60 = some (60, .iload 4, 62, 0, 0, 0) := by decide +kernel
theorem s299_60 {L : Nat} {xs : Nat → Int32} {d x : Nat} {M : qxM} {st : List Value} {a0 a1 a2 a3 a5 : Option Value} {z : Int32} : Rs L xs (d) 299 60 [a0, a1, a2, a3, some (.int z), a5] st M x = Rs L xs (d) 299 62 [a0, a1, a2, a3, some (.int z), a5] (.int z :: st) M x := Rs_next c299_60 rfl
theorem c299_62 : qx_code 299 62 = some (62, .ireturn, 63, 0, 0, 0) := by decide +kernel
theorem s299_62 {L : Nat} {xs : Nat → Int32} {d x : Nat} {M : qxM} {ls : qxL} {z : Int32} : Rs L xs (d) 299 62 ls [.int z] M x = some (.inl (some (.int z)), M, x) := Rs_ret c299_62 rfl
theorem c299_63 : qx_code 299 63 = some (63, .iload_n 3, 64, 0, 0, 0) := by decide +kernel
theorem s299_63 {L : Nat} {xs : Nat → Int32} {d x : Nat} {M : qxM} {st : List Value} {a0 a1 a2 a4 a5 : Option Value} {z : Int32} : Rs L xs (d) 299 63 [a0, a1, a2, some (.int z), a4, a5] st M x = Rs L xs (d) 299 64 [a0, a1, a2, some (.int z), a4, a5] (.int z :: st) M x := Rs_next c299_63 rfl
theorem c299_64 : qx_code 299 64 = some (64, .iconst 1, 65, 0, 0, 0) := by decide +kernel
theorem s299_64 {L : Nat} {xs : Nat → Int32} {d x : Nat} {M : qxM} {st : List Value} {ls : qxL} : Rs L xs (d) 299 64 ls st M x = Rs L xs (d) 299 65 ls (.int (nI 1) :: st) M x := Rs_next c299_64 rfl
theorem c299_65 : qx_code 299 65 = some (65, .iload 4, 67, 0, 0, 0) := by decide +kernel
theorem s299_65 {L : Nat} {xs : Nat → Int32} {d x : Nat} {M : qxM} {st : List Value} {a0 a1 a2 a3 a5 : Option Value} {z : Int32} : Rs L xs (d) 299 65 [a0, a1, a2, a3, some (.int z), a5] st M x = Rs L xs (d) 299 67 [a0, a1, a2, a3, some (.int z), a5] (.int z :: st) M x := Rs_next c299_65 rfl
theorem c299_67 : qx_code 299 67 = some (67, .ishl, 68, 0, 0, 0) := by decide +kernel
theorem s299_67 {L : Nat} {xs : Nat → Int32} {d x : Nat} {M : qxM} {st : List Value} {ls : qxL} {z y : Int32} : Rs L xs (d) 299 67 ls (.int y :: .int z :: st) M x = Rs L xs (d) 299 68 ls (.int (z <<< (y &&& 31)) :: st) M x := Rs_next c299_67 rfl
theorem c299_68 : qx_code 299 68 = some (68, .iconst (-1), 69, 0, 0, 0) := by decide +kernel
theorem s299_68 {L : Nat} {xs : Nat → Int32} {d x : Nat} {M : qxM} {st : List Value} {ls : qxL} : Rs L xs (d) 299 68 ls st M x = Rs L xs (d) 299 69 ls (.int (-1) :: st) M x := Rs_next c299_68 rfl
theorem c299_69 : qx_code 299 69 = some (69, .ixor, 70, 0, 0, 0) := by decide +kernel
theorem s299_69 {L : Nat} {xs : Nat → Int32} {d x : Nat} {M : qxM} {st : List Value} {ls : qxL} {z y : Int32} : Rs L xs (d) 299 69 ls (.int y :: .int z :: st) M x = Rs L xs (d) 299 70 ls (.int (z ^^^ y) :: st) M x := Rs_next c299_69 rfl
theorem c299_70 : qx_code 299 70 = some (70, .iand, 71, 0, 0, 0) := by decide +kernel
theorem s299_70 {L : Nat} {xs : Nat → Int32} {d x : Nat} {M : qxM} {st : List Value} {ls : qxL} {z y : Int32} : Rs L xs (d) 299 70 ls (.int y :: .int z :: st) M x = Rs L xs (d) 299 71 ls (.int (z &&& y) :: st) M x := Rs_next c299_70 rfl
theorem c299_71 : qx_code 299 71 = some (71, .istore_n 3, 72, 0, 0, 0) := by decide +kernel
theorem s299_71i {L : Nat} {xs : Nat → Int32} {d x : Nat} {M : qxM} {st : List Value} {a0 a1 a3 a4 a5 : Option Value} {z : Int32} {y : Int32} : Rs L xs (d) 299 71 [a0, a1, some (.int y), a3, a4, a5] (.int z :: st) M x = Rs L xs (d) 299 72 [a0, a1, some (.int y), some (.int z), a4, a5] st M x := Rs_next c299_71 rfl
theorem s299_71r {L : Nat} {xs : Nat → Int32} {d x : Nat} {M : qxM} {st : List Value} {a0 a1 a3 a4 a5 : Option Value} {z : Int32} {y : Nat} : Rs L xs (d) 299 71 [a0, a1, some (.ref y), a3, a4, a5] (.int z :: st) M x = Rs L xs (d) 299 72 [a0, a1, some (.ref y), some (.int z), a4, a5] st M x := Rs_next c299_71 rfl
theorem s299_71n {L : Nat} {xs : Nat → Int32} {d x : Nat} {M : qxM} {st : List Value} {a0 a1 a3 a4 a5 : Option Value} {z : Int32} : Rs L xs (d) 299 71 [a0, a1, none, a3, a4, a5] (.int z :: st) M x = Rs L xs (d) 299 72 [a0, a1, none, some (.int z), a4, a5] st M x := Rs_next c299_71 rfl
theorem c299_72 : qx_code 299 72 = some (72, .iload 5, 74, 0, 0, 0) := by decide +kernel
theorem s299_72 {L : Nat} {xs : Nat → Int32} {d x : Nat} {M : qxM} {st : List Value} {a0 a1 a2 a3 a4 : Option Value} {z : Int32} : Rs L xs (d) 299 72 [a0, a1, a2, a3, a4, some (.int z)] st M x = Rs L xs (d) 299 74 [a0, a1, a2, a3, a4, some (.int z)] (.int z :: st) M x := Rs_next c299_72 rfl
theorem c299_74 : qx_code 299 74 = some (74, .iconst (-1), 75, 0, 0, 0) := by decide +kernel
theorem s299_74 {L : Nat} {xs : Nat → Int32} {d x : Nat} {M : qxM} {st : List Value} {ls : qxL} : Rs L xs (d) 299 74 ls st M x = Rs L xs (d) 299 75 ls (.int (-1) :: st) M x := Rs_next c299_74 rfl
theorem c299_75 : qx_code 299 75 = some (75, .if_icmp .eq 12, 78, 87, 0, 0) := by decide +kernel
theorem s299_75 {L : Nat} {xs : Nat → Int32} {d x : Nat} {M : qxM} {st : List Value} {ls : qxL} {z y : Int32} : Rs L xs (d) 299 75 ls (.int y :: .int z :: st) M x = if z = y then Rs L xs (d) 299 87 ls st M x else Rs L xs (d) 299 78 ls st M x := Rs_ite c299_75 rfl
theorem c299_78 : qx_code 299 78 = some (78, .iload_n 3, 79, 0, 0, 0) := by decide +kernel
theorem s299_78 {L : Nat} {xs : Nat → Int32} {d x : Nat} {M : qxM} {st : List Value} {a0 a1 a2 a4 a5 : Option Value} {z : Int32} : Rs L xs (d) 299 78 [a0, a1, a2, some (.int z), a4, a5] st M x = Rs L xs (d) 299 79 [a0, a1, a2, some (.int z), a4, a5] (.int z :: st) M x := Rs_next c299_78 rfl
theorem c299_79 : qx_code 299 79 = some (79, .iconst 1, 80, 0, 0, 0) := by decide +kernel
theorem s299_79 {L : Nat} {xs : Nat → Int32} {d x : Nat} {M : qxM} {st : List Value} {ls : qxL} : Rs L xs (d) 299 79 ls st M x = Rs L xs (d) 299 80 ls (.int (nI 1) :: st) M x := Rs_next c299_79 rfl
theorem c299_80 : qx_code 299 80 = some (80, .iload 5, 82, 0, 0, 0) := by decide +kernel
theorem s299_80 {L : Nat} {xs : Nat → Int32} {d x : Nat} {M : qxM} {st : List Value} {a0 a1 a2 a3 a4 : Option Value} {z : Int32} : Rs L xs (d) 299 80 [a0, a1, a2, a3, a4, some (.int z)] st M x = Rs L xs (d) 299 82 [a0, a1, a2, a3, a4, some (.int z)] (.int z :: st) M x := Rs_next c299_80 rfl
theorem c299_82 : qx_code 299 82 = some (82, .ishl, 83, 0, 0, 0) := by decide +kernel
theorem s299_82 {L : Nat} {xs : Nat → Int32} {d x : Nat} {M : qxM} {st : List Value} {ls : qxL} {z y : Int32} : Rs L xs (d) 299 82 ls (.int y :: .int z :: st) M x = Rs L xs (d) 299 83 ls (.int (z <<< (y &&& 31)) :: st) M x := Rs_next c299_82 rfl
theorem c299_83 : qx_code 299 83 = some (83, .iconst (-1), 84, 0, 0, 0) := by decide +kernel
theorem s299_83 {L : Nat} {xs : Nat → Int32} {d x : Nat} {M : qxM} {st : List Value} {ls : qxL} : Rs L xs (d) 299 83 ls st M x = Rs L xs (d) 299 84 ls (.int (-1) :: st) M x := Rs_next c299_83 rfl
theorem c299_84 : qx_code 299 84 = some (84, .ixor, 85, 0, 0, 0) := by decide +kernel
theorem s299_84 {L : Nat} {xs : Nat → Int32} {d x : Nat} {M : qxM} {st : List Value} {ls : qxL} {z y : Int32} : Rs L xs (d) 299 84 ls (.int y :: .int z :: st) M x = Rs L xs (d) 299 85 ls (.int (z ^^^ y) :: st) M x := Rs_next c299_84 rfl
theorem c299_85 : qx_code 299 85 = some (85, .iand, 86, 0, 0, 0) := by decide +kernel
theorem s299_85 {L : Nat} {xs : Nat → Int32} {d x : Nat} {M : qxM} {st : List Value} {ls : qxL} {z y : Int32} : Rs L xs (d) 299 85 ls (.int y :: .int z :: st) M x = Rs L xs (d) 299 86 ls (.int (z &&& y) :: st) M x := Rs_next c299_85 rfl
theorem c299_86 : qx_code 299 86 = some (86, .istore_n 3, 87, 0, 0, 0) := by decide +kernel
theorem s299_86i {L : Nat} {xs : Nat → Int32} {d x : Nat} {M : qxM} {st : List Value} {a0 a1 a3 a4 a5 : Option Value} {z : Int32} {y : Int32} : Rs L xs (d) 299 86 [a0, a1, some (.int y), a3, a4, a5] (.int z :: st) M x = Rs L xs (d) 299 87 [a0, a1, some (.int y), some (.int z), a4, a5] st M x := Rs_next c299_86 rfl
theorem s299_86r {L : Nat} {xs : Nat → Int32} {d x : Nat} {M : qxM} {st : List Value} {a0 a1 a3 a4 a5 : Option Value} {z : Int32} {y : Nat} : Rs L xs (d) 299 86 [a0, a1, some (.ref y), a3, a4, a5] (.int z :: st) M x = Rs L xs (d) 299 87 [a0, a1, some (.ref y), some (.int z), a4, a5] st M x := Rs_next c299_86 rfl
theorem s299_86n {L : Nat} {xs : Nat → Int32} {d x : Nat} {M : qxM} {st : List Value} {a0 a1 a3 a4 a5 : Option Value} {z : Int32} : Rs L xs (d) 299 86 [a0, a1, none, a3, a4, a5] (.int z :: st) M x = Rs L xs (d) 299 87 [a0, a1, none, some (.int z), a4, a5] st M x := Rs_next c299_86 rfl
theorem c299_87 : qx_code 299 87 = some (87, .goto (-67), 90, 20, 0, 0) := by decide +kernel
theorem s299_87 {L : Nat} {xs : Nat → Int32} {d x : Nat} {M : qxM} {st : List Value} {ls : qxL} : Rs L xs (d) 299 87 ls st M x = Rs L xs (d) 299 20 ls st M x := Rs_next c299_87 rfl
theorem c299_90 : qx_code 299 90 = some (90, .iconst (-1), 91, 0, 0, 0) := by decide +kernel
theorem s299_90 {L : Nat} {xs : Nat → Int32} {d x : Nat} {M : qxM} {st : List Value} {ls : qxL} : Rs L xs (d) 299 90 ls st M x = Rs L xs (d) 299 91 ls (.int (-1) :: st) M x := Rs_next c299_90 rfl
theorem c299_91 : qx_code 299 91 = some (91, .ireturn, 92, 0, 0, 0) := by decide +kernel
theorem s299_91 {L : Nat} {xs : Nat → Int32} {d x : Nat} {M : qxM} {ls : qxL} {z : Int32} : Rs L xs (d) 299 91 ls [.int z] M x = some (.inl (some (.int z)), M, x) := Rs_ret c299_91 rfl
theorem c300_0 : qx_code 300 0 = some (0, .aload_n 0, 1, 0, 0, 0) := by decide +kernel
theorem s300_0 {L : Nat} {xs : Nat → Int32} {d x : Nat} {M : qxM} {st : List Value} {a1 a2 : Option Value} {z : Nat} : Rs L xs (d) 300 0 [some (.ref z), a1, a2] st M x = Rs L xs (d) 300 1 [some (.ref z), a1, a2] (.ref z :: st) M x := Rs_next c300_0 rfl
theorem c300_1 : qx_code 300 1 = some (1, .iload_n 1, 2, 0, 0, 0) := by decide +kernel
theorem s300_1 {L : Nat} {xs : Nat → Int32} {d x : Nat} {M : qxM} {st : List Value} {a0 a2 : Option Value} {z : Int32} : Rs L xs (d) 300 1 [a0, some (.int z), a2] st M x = Rs L xs (d) 300 2 [a0, some (.int z), a2] (.int z :: st) M x := Rs_next c300_1 rfl
theorem c300_2 : qx_code 300 2 = some (2, .invokevirtual 232, 5, 226, 2, 1819) := by decide +kernel
theorem s300_2 {L : Nat} {xs : Nat → Int32} {d x : Nat} {M : qxM} {st : List Value} {ls : qxL} {t : Nat} {z0 : Int32} (hk : qx_kd t = 18) (hs : st.length ≤ 4) : Rs L xs (d + 1) 300 2 ls (.int z0 :: .ref t :: st) M x = (Rs L xs d 226 0 [some (.ref t), some (.int z0)] [] M 0).bind (qx_kn L xs (d + 1) 300 2 5 226 ls st x) := by
  have h1 : qx_act L xs (qx_rt 300) (2, .invokevirtual 232, 5, 226, 2, 1819) ls (.int z0 :: .ref t :: st) M = if 2 ≤ (.int z0 :: .ref t :: st).length ∧ st.length ≤ 4 then some (.inr (.inr (.inr (226, [.ref t, .int z0], st)))) else none := rfl
  rw [if_pos ⟨by simp [List.length_cons]; try omega, hs⟩] at h1
  have h2 := qx_kd_obj (k := 8) (by decide) hk
  exact Rs_call c300_2 h1 (by rw [show qx_args 226 [.ref t, .int z0] = decide (qx_sh t = some (.inl 8)) from rfl]; exact decide_eq_true h2)
theorem c300_5 : qx_code 300 5 = some (5, .ifCond .ne 5, 8, 10, 0, 0) := by decide +kernel
theorem s300_5 {L : Nat} {xs : Nat → Int32} {d x : Nat} {M : qxM} {st : List Value} {ls : qxL} {z : Int32} : Rs L xs (d) 300 5 ls (.int z :: st) M x = if z = 0 then Rs L xs (d) 300 8 ls st M x else Rs L xs (d) 300 10 ls st M x := Rs_ite c300_5 rfl
theorem c300_8 : qx_code 300 8 = some (8, .iconst 0, 9, 0, 0, 0) := by decide +kernel
theorem s300_8 {L : Nat} {xs : Nat → Int32} {d x : Nat} {M : qxM} {st : List Value} {ls : qxL} : Rs L xs (d) 300 8 ls st M x = Rs L xs (d) 300 9 ls (.int (nI 0) :: st) M x := Rs_next c300_8 rfl
theorem c300_9 : qx_code 300 9 = some (9, .ireturn, 10, 0, 0, 0) := by decide +kernel
theorem s300_9 {L : Nat} {xs : Nat → Int32} {d x : Nat} {M : qxM} {ls : qxL} {z : Int32} : Rs L xs (d) 300 9 ls [.int z] M x = some (.inl (some (.int z)), M, x) := Rs_ret c300_9 rfl
theorem c300_10 : qx_code 300 10 = some (10, .aload_n 0, 11, 0, 0, 0) := by decide +kernel
theorem s300_10 {L : Nat} {xs : Nat → Int32} {d x : Nat} {M : qxM} {st : List Value} {a1 a2 : Option Value} {z : Nat} : Rs L xs (d) 300 10 [some (.ref z), a1, a2] st M x = Rs L xs (d) 300 11 [some (.ref z), a1, a2] (.ref z :: st) M x := Rs_next c300_10 rfl
theorem c300_11 : qx_code 300 11 = some (11, .invokevirtual 318, 14, 271, 1, 1922) := by decide +kernel
theorem s300_11 {L : Nat} {xs : Nat → Int32} {d x : Nat} {M : qxM} {st : List Value} {ls : qxL} {t : Nat} (hk : qx_kd t = 18) (hs : st.length ≤ 4) : Rs L xs (d + 1) 300 11 ls (.ref t :: st) M x = (Rs L xs d 271 0 [some (.ref t), none] [] M 0).bind (qx_kn L xs (d + 1) 300 11 14 271 ls st x) := by
  have h1 : qx_act L xs (qx_rt 300) (11, .invokevirtual 318, 14, 271, 1, 1922) ls (.ref t :: st) M = if 1 ≤ (.ref t :: st).length ∧ st.length ≤ 4 then some (.inr (.inr (.inr (271, [.ref t], st)))) else none := rfl
  rw [if_pos ⟨by simp [List.length_cons]; try omega, hs⟩] at h1
  have h2 := qx_kd_obj (k := 8) (by decide) hk
  exact Rs_call c300_11 h1 (by rw [show qx_args 271 [.ref t] = decide (qx_sh t = some (.inl 8)) from rfl]; exact decide_eq_true h2)
theorem c300_14 : qx_code 300 14 = some (14, .istore_n 2, 15, 0, 0, 0) := by decide +kernel
theorem s300_14i {L : Nat} {xs : Nat → Int32} {d x : Nat} {M : qxM} {st : List Value} {a0 a2 : Option Value} {z : Int32} {y : Int32} : Rs L xs (d) 300 14 [a0, some (.int y), a2] (.int z :: st) M x = Rs L xs (d) 300 15 [a0, some (.int y), some (.int z)] st M x := Rs_next c300_14 rfl
theorem s300_14r {L : Nat} {xs : Nat → Int32} {d x : Nat} {M : qxM} {st : List Value} {a0 a2 : Option Value} {z : Int32} {y : Nat} : Rs L xs (d) 300 14 [a0, some (.ref y), a2] (.int z :: st) M x = Rs L xs (d) 300 15 [a0, some (.ref y), some (.int z)] st M x := Rs_next c300_14 rfl
theorem s300_14n {L : Nat} {xs : Nat → Int32} {d x : Nat} {M : qxM} {st : List Value} {a0 a2 : Option Value} {z : Int32} : Rs L xs (d) 300 14 [a0, none, a2] (.int z :: st) M x = Rs L xs (d) 300 15 [a0, none, some (.int z)] st M x := Rs_next c300_14 rfl
theorem c300_15 : qx_code 300 15 = some (15, .aload_n 0, 16, 0, 0, 0) := by decide +kernel
theorem s300_15 {L : Nat} {xs : Nat → Int32} {d x : Nat} {M : qxM} {st : List Value} {a1 a2 : Option Value} {z : Nat} : Rs L xs (d) 300 15 [some (.ref z), a1, a2] st M x = Rs L xs (d) 300 16 [some (.ref z), a1, a2] (.ref z :: st) M x := Rs_next c300_15 rfl
theorem c300_16 : qx_code 300 16 = some (16, .iload_n 1, 17, 0, 0, 0) := by decide +kernel
theorem s300_16 {L : Nat} {xs : Nat → Int32} {d x : Nat} {M : qxM} {st : List Value} {a0 a2 : Option Value} {z : Int32} : Rs L xs (d) 300 16 [a0, some (.int z), a2] st M x = Rs L xs (d) 300 17 [a0, some (.int z), a2] (.int z :: st) M x := Rs_next c300_16 rfl
theorem c300_17 : qx_code 300 17 = some (17, .invokevirtual 321, 20, 272, 2, 1950) := by decide +kernel
theorem s300_17 {L : Nat} {xs : Nat → Int32} {d x : Nat} {M : qxM} {st : List Value} {ls : qxL} {t : Nat} {z0 : Int32} (hk : qx_kd t = 18) (hs : st.length ≤ 4) : Rs L xs (d + 1) 300 17 ls (.int z0 :: .ref t :: st) M x = (Rs L xs d 272 0 [some (.ref t), some (.int z0)] [] M 0).bind (qx_kn L xs (d + 1) 300 17 20 272 ls st x) := by
  have h1 : qx_act L xs (qx_rt 300) (17, .invokevirtual 321, 20, 272, 2, 1950) ls (.int z0 :: .ref t :: st) M = if 2 ≤ (.int z0 :: .ref t :: st).length ∧ st.length ≤ 4 then some (.inr (.inr (.inr (272, [.ref t, .int z0], st)))) else none := rfl
  rw [if_pos ⟨by simp [List.length_cons]; try omega, hs⟩] at h1
  have h2 := qx_kd_obj (k := 8) (by decide) hk
  exact Rs_call c300_17 h1 (by rw [show qx_args 272 [.ref t, .int z0] = decide (qx_sh t = some (.inl 8)) from rfl]; exact decide_eq_true h2)
theorem c300_20 : qx_code 300 20 = some (20, .ireturn, 21, 0, 0, 0) := by decide +kernel
theorem s300_20 {L : Nat} {xs : Nat → Int32} {d x : Nat} {M : qxM} {ls : qxL} {z : Int32} : Rs L xs (d) 300 20 ls [.int z] M x = some (.inl (some (.int z)), M, x) := Rs_ret c300_20 rfl
theorem c301_0 : qx_code 301 0 = some (0, .aload_n 0, 1, 0, 0, 0) := by decide +kernel
theorem s301_0 {L : Nat} {xs : Nat → Int32} {d x : Nat} {M : qxM} {st : List Value} {a1 a2 : Option Value} {z : Nat} : Rs L xs (d) 301 0 [some (.ref z), a1, a2] st M x = Rs L xs (d) 301 1 [some (.ref z), a1, a2] (.ref z :: st) M x := Rs_next c301_0 rfl
theorem c301_1 : qx_code 301 1 = some (1, .iload_n 1, 2, 0, 0, 0) := by decide +kernel
theorem s301_1 {L : Nat} {xs : Nat → Int32} {d x : Nat} {M : qxM} {st : List Value} {a0 a2 : Option Value} {z : Int32} : Rs L xs (d) 301 1 [a0, some (.int z), a2] st M x = Rs L xs (d) 301 2 [a0, some (.int z), a2] (.int z :: st) M x := Rs_next c301_1 rfl
theorem c301_2 : qx_code 301 2 = some (2, .iload_n 2, 3, 0, 0, 0) := by decide +kernel
theorem s301_2 {L : Nat} {xs : Nat → Int32} {d x : Nat} {M : qxM} {st : List Value} {a0 a1 : Option Value} {z : Int32} : Rs L xs (d) 301 2 [a0, a1, some (.int z)] st M x = Rs L xs (d) 301 3 [a0, a1, some (.int z)] (.int z :: st) M x := Rs_next c301_2 rfl
theorem c301_3 : qx_code 301 3 = some (3, .invokevirtual 229, 6, 227, 3, 1811) := by decide +kernel
theorem s301_3 {L : Nat} {xs : Nat → Int32} {d x : Nat} {M : qxM} {st : List Value} {ls : qxL} {t : Nat} {z0 : Int32} {z1 : Int32} (hk : qx_kd t = 18) (hs : st.length ≤ 4) : Rs L xs (d + 1) 301 3 ls (.int z1 :: .int z0 :: .ref t :: st) M x = (Rs L xs d 227 0 [some (.ref t), some (.int z0), some (.int z1)] [] M 0).bind (qx_kn L xs (d + 1) 301 3 6 227 ls st x) := by
  have h1 : qx_act L xs (qx_rt 301) (3, .invokevirtual 229, 6, 227, 3, 1811) ls (.int z1 :: .int z0 :: .ref t :: st) M = if 3 ≤ (.int z1 :: .int z0 :: .ref t :: st).length ∧ st.length ≤ 4 then some (.inr (.inr (.inr (227, [.ref t, .int z0, .int z1], st)))) else none := rfl
  rw [if_pos ⟨by simp [List.length_cons]; try omega, hs⟩] at h1
  have h2 := qx_kd_obj (k := 8) (by decide) hk
  exact Rs_call c301_3 h1 (by rw [show qx_args 227 [.ref t, .int z0, .int z1] = decide (qx_sh t = some (.inl 8)) from rfl]; exact decide_eq_true h2)
theorem c301_6 : qx_code 301 6 = some (6, .ifCond .eq 12, 9, 18, 0, 0) := by decide +kernel
theorem s301_6 {L : Nat} {xs : Nat → Int32} {d x : Nat} {M : qxM} {st : List Value} {ls : qxL} {z : Int32} : Rs L xs (d) 301 6 ls (.int z :: st) M x = if z = 0 then Rs L xs (d) 301 18 ls st M x else Rs L xs (d) 301 9 ls st M x := Rs_ite c301_6 rfl
theorem c301_9 : qx_code 301 9 = some (9, .aload_n 0, 10, 0, 0, 0) := by decide +kernel
theorem s301_9 {L : Nat} {xs : Nat → Int32} {d x : Nat} {M : qxM} {st : List Value} {a1 a2 : Option Value} {z : Nat} : Rs L xs (d) 301 9 [some (.ref z), a1, a2] st M x = Rs L xs (d) 301 10 [some (.ref z), a1, a2] (.ref z :: st) M x := Rs_next c301_9 rfl
theorem c301_10 : qx_code 301 10 = some (10, .iload_n 1, 11, 0, 0, 0) := by decide +kernel
theorem s301_10 {L : Nat} {xs : Nat → Int32} {d x : Nat} {M : qxM} {st : List Value} {a0 a2 : Option Value} {z : Int32} : Rs L xs (d) 301 10 [a0, some (.int z), a2] st M x = Rs L xs (d) 301 11 [a0, some (.int z), a2] (.int z :: st) M x := Rs_next c301_10 rfl
theorem c301_11 : qx_code 301 11 = some (11, .iload_n 2, 12, 0, 0, 0) := by decide +kernel
theorem s301_11 {L : Nat} {xs : Nat → Int32} {d x : Nat} {M : qxM} {st : List Value} {a0 a1 : Option Value} {z : Int32} : Rs L xs (d) 301 11 [a0, a1, some (.int z)] st M x = Rs L xs (d) 301 12 [a0, a1, some (.int z)] (.int z :: st) M x := Rs_next c301_11 rfl
theorem c301_12 : qx_code 301 12 = some (12, .invokevirtual 351, 15, 295, 3, 2026) := by decide +kernel
theorem s301_12 {L : Nat} {xs : Nat → Int32} {d x : Nat} {M : qxM} {st : List Value} {ls : qxL} {t : Nat} {z0 : Int32} {z1 : Int32} (hk : qx_kd t = 18) (hs : st.length ≤ 4) : Rs L xs (d + 1) 301 12 ls (.int z1 :: .int z0 :: .ref t :: st) M x = (Rs L xs d 295 0 [some (.ref t), some (.int z0), some (.int z1), none] [] M 0).bind (qx_kn L xs (d + 1) 301 12 15 295 ls st x) := by
  have h1 : qx_act L xs (qx_rt 301) (12, .invokevirtual 351, 15, 295, 3, 2026) ls (.int z1 :: .int z0 :: .ref t :: st) M = if 3 ≤ (.int z1 :: .int z0 :: .ref t :: st).length ∧ st.length ≤ 4 then some (.inr (.inr (.inr (295, [.ref t, .int z0, .int z1], st)))) else none := rfl
  rw [if_pos ⟨by simp [List.length_cons]; try omega, hs⟩] at h1
  have h2 := qx_kd_obj (k := 8) (by decide) hk
  exact Rs_call c301_12 h1 (by rw [show qx_args 295 [.ref t, .int z0, .int z1] = decide (qx_sh t = some (.inl 8)) from rfl]; exact decide_eq_true h2)
theorem c301_15 : qx_code 301 15 = some (15, .goto 4, 18, 19, 0, 0) := by decide +kernel
theorem s301_15 {L : Nat} {xs : Nat → Int32} {d x : Nat} {M : qxM} {st : List Value} {ls : qxL} : Rs L xs (d) 301 15 ls st M x = Rs L xs (d) 301 19 ls st M x := Rs_next c301_15 rfl
theorem c301_18 : qx_code 301 18 = some (18, .iconst 0, 19, 0, 0, 0) := by decide +kernel
theorem s301_18 {L : Nat} {xs : Nat → Int32} {d x : Nat} {M : qxM} {st : List Value} {ls : qxL} : Rs L xs (d) 301 18 ls st M x = Rs L xs (d) 301 19 ls (.int (nI 0) :: st) M x := Rs_next c301_18 rfl
theorem c301_19 : qx_code 301 19 = some (19, .ireturn, 20, 0, 0, 0) := by decide +kernel
theorem s301_19 {L : Nat} {xs : Nat → Int32} {d x : Nat} {M : qxM} {ls : qxL} {z : Int32} : Rs L xs (d) 301 19 ls [.int z] M x = some (.inl (some (.int z)), M, x) := Rs_ret c301_19 rfl
theorem c302_0 : qx_code 302 0 = some (0, .iload_n 0, 1, 0, 0, 0) := by decide +kernel
theorem s302_0 {L : Nat} {xs : Nat → Int32} {d x : Nat} {M : qxM} {st : List Value} {z : Int32} : Rs L xs (d) 302 0 [some (.int z)] st M x = Rs L xs (d) 302 1 [some (.int z)] (.int z :: st) M x := Rs_next c302_0 rfl
theorem c302_1 : qx_code 302 1 = some (1, .iconst 0, 2, 0, 0, 0) := by decide +kernel
theorem s302_1 {L : Nat} {xs : Nat → Int32} {d x : Nat} {M : qxM} {st : List Value} {ls : qxL} : Rs L xs (d) 302 1 ls st M x = Rs L xs (d) 302 2 ls (.int (nI 0) :: st) M x := Rs_next c302_1 rfl
theorem c302_2 : qx_code 302 2 = some (2, .iconst 2, 3, 0, 0, 0) := by decide +kernel
theorem s302_2 {L : Nat} {xs : Nat → Int32} {d x : Nat} {M : qxM} {st : List Value} {ls : qxL} : Rs L xs (d) 302 2 ls st M x = Rs L xs (d) 302 3 ls (.int (nI 2) :: st) M x := Rs_next c302_2 rfl
theorem c302_3 : qx_code 302 3 = some (3, .invokestatic 69, 6, 178, 3, 1641) := by decide +kernel
theorem s302_3 {L : Nat} {xs : Nat → Int32} {d x : Nat} {M : qxM} {st : List Value} {ls : qxL} {z0 : Int32} {z1 : Int32} {z2 : Int32} (hs : st.length ≤ 4) : Rs L xs (d + 1) 302 3 ls (.int z2 :: .int z1 :: .int z0 :: st) M x = (Rs L xs d 178 0 [some (.int z0), some (.int z1), some (.int z2)] [] M 0).bind (qx_kn L xs (d + 1) 302 3 6 178 ls st x) := by
  have h1 : qx_act L xs (qx_rt 302) (3, .invokestatic 69, 6, 178, 3, 1641) ls (.int z2 :: .int z1 :: .int z0 :: st) M = if 3 ≤ (.int z2 :: .int z1 :: .int z0 :: st).length ∧ st.length ≤ 4 then some (.inr (.inr (.inr (178, [.int z0, .int z1, .int z2], st)))) else none := rfl
  rw [if_pos ⟨by simp [List.length_cons]; try omega, hs⟩] at h1
  exact Rs_call c302_3 h1 rfl
theorem c302_6 : qx_code 302 6 = some (6, .ireturn, 7, 0, 0, 0) := by decide +kernel
theorem s302_6 {L : Nat} {xs : Nat → Int32} {d x : Nat} {M : qxM} {ls : qxL} {z : Int32} (h01 : z = 0 ∨ z = 1) : Rs L xs (d) 302 6 ls [.int z] M x = some (.inl (some (.int z)), M, x) := Rs_retw h01 c302_6 rfl
theorem c303_0 : qx_code 303 0 = some (0, .aload_n 0, 1, 0, 0, 0) := by decide +kernel
theorem s303_0 {L : Nat} {xs : Nat → Int32} {d x : Nat} {M : qxM} {st : List Value} {a1 a2 a3 : Option Value} {z : Nat} : Rs L xs (d) 303 0 [some (.ref z), a1, a2, a3] st M x = Rs L xs (d) 303 1 [some (.ref z), a1, a2, a3] (.ref z :: st) M x := Rs_next c303_0 rfl
theorem c303_1 : qx_code 303 1 = some (1, .getfield 9, 4, 8, 1, 1546) := by decide +kernel
theorem s303_1 {L : Nat} {xs : Nat → Int32} {d x : Nat} {M : qxM} {st : List Value} {ls : qxL} {t : Nat} (hk : qx_kd t = 18) : Rs L xs (d) 303 1 ls (.ref t :: st) M x = Rs L xs (d) 303 4 ls (.ref (t + 1) :: st) M x := Rs_when (qx_kd_obj (k := 8) (by decide) hk) c303_1 rfl
theorem c303_4 : qx_code 303 4 = some (4, .iconst 1, 5, 0, 0, 0) := by decide +kernel
theorem s303_4 {L : Nat} {xs : Nat → Int32} {d x : Nat} {M : qxM} {st : List Value} {ls : qxL} : Rs L xs (d) 303 4 ls st M x = Rs L xs (d) 303 5 ls (.int (nI 1) :: st) M x := Rs_next c303_4 rfl
theorem c303_5 : qx_code 303 5 = some (5, .iaload, 6, 0, 0, 0) := by decide +kernel
theorem s303_5 {L : Nat} {xs : Nat → Int32} {d x : Nat} {M : qxM} {st : List Value} {ls : qxL} {t : Nat} {j : Int32} (hk : qx_kd t = 0) (hj : qx_ib j (qx_ln t) = true) : Rs L xs (d) 303 5 ls (.int j :: .ref t :: st) M x = Rs L xs (d) 303 6 ls (.int (M.1 t j.toNatClampNeg) :: st) M x := by
  have h1 := qx_kd_row (k := 0) (by decide) hk
  exact Rs_unless (qx_ib_not hj) c303_5 (by unfold qx_act; dsimp only; rw [h1]; rfl)
theorem c303_6 : qx_code 303 6 = some (6, .istore_n 2, 7, 0, 0, 0) := by decide +kernel
theorem s303_6i {L : Nat} {xs : Nat → Int32} {d x : Nat} {M : qxM} {st : List Value} {a0 a2 a3 : Option Value} {z : Int32} {y : Int32} : Rs L xs (d) 303 6 [a0, some (.int y), a2, a3] (.int z :: st) M x = Rs L xs (d) 303 7 [a0, some (.int y), some (.int z), a3] st M x := Rs_next c303_6 rfl
theorem s303_6r {L : Nat} {xs : Nat → Int32} {d x : Nat} {M : qxM} {st : List Value} {a0 a2 a3 : Option Value} {z : Int32} {y : Nat} : Rs L xs (d) 303 6 [a0, some (.ref y), a2, a3] (.int z :: st) M x = Rs L xs (d) 303 7 [a0, some (.ref y), some (.int z), a3] st M x := Rs_next c303_6 rfl
theorem s303_6n {L : Nat} {xs : Nat → Int32} {d x : Nat} {M : qxM} {st : List Value} {a0 a2 a3 : Option Value} {z : Int32} : Rs L xs (d) 303 6 [a0, none, a2, a3] (.int z :: st) M x = Rs L xs (d) 303 7 [a0, none, some (.int z), a3] st M x := Rs_next c303_6 rfl
theorem c303_7 : qx_code 303 7 = some (7, .aload_n 0, 8, 0, 0, 0) := by decide +kernel
theorem s303_7 {L : Nat} {xs : Nat → Int32} {d x : Nat} {M : qxM} {st : List Value} {a1 a2 a3 : Option Value} {z : Nat} : Rs L xs (d) 303 7 [some (.ref z), a1, a2, a3] st M x = Rs L xs (d) 303 8 [some (.ref z), a1, a2, a3] (.ref z :: st) M x := Rs_next c303_7 rfl
theorem c303_8 : qx_code 303 8 = some (8, .getfield 9, 11, 8, 1, 1546) := by decide +kernel
theorem s303_8 {L : Nat} {xs : Nat → Int32} {d x : Nat} {M : qxM} {st : List Value} {ls : qxL} {t : Nat} (hk : qx_kd t = 18) : Rs L xs (d) 303 8 ls (.ref t :: st) M x = Rs L xs (d) 303 11 ls (.ref (t + 1) :: st) M x := Rs_when (qx_kd_obj (k := 8) (by decide) hk) c303_8 rfl
theorem c303_11 : qx_code 303 11 = some (11, .iconst 1, 12, 0, 0, 0) := by decide +kernel
theorem s303_11 {L : Nat} {xs : Nat → Int32} {d x : Nat} {M : qxM} {st : List Value} {ls : qxL} : Rs L xs (d) 303 11 ls st M x = Rs L xs (d) 303 12 ls (.int (nI 1) :: st) M x := Rs_next c303_11 rfl
theorem c303_12 : qx_code 303 12 = some (12, .iload_n 1, 13, 0, 0, 0) := by decide +kernel
theorem s303_12 {L : Nat} {xs : Nat → Int32} {d x : Nat} {M : qxM} {st : List Value} {a0 a2 a3 : Option Value} {z : Int32} : Rs L xs (d) 303 12 [a0, some (.int z), a2, a3] st M x = Rs L xs (d) 303 13 [a0, some (.int z), a2, a3] (.int z :: st) M x := Rs_next c303_12 rfl
theorem c303_13 : qx_code 303 13 = some (13, .iastore, 14, 0, 0, 0) := by decide +kernel
theorem s303_13 {L : Nat} {xs : Nat → Int32} {d x : Nat} {M : qxM} {st : List Value} {ls : qxL} {t : Nat} {j : Int32} {z : Int32} (hk : qx_kd t = 0) (hj : qx_ib j (qx_ln t) = true) : Rs L xs (d) 303 13 ls (.int z :: .int j :: .ref t :: st) M x = Rs L xs (d) 303 14 ls st (qx_up M t j.toNatClampNeg z) x := by
  have h1 := qx_kd_row (k := 0) (by decide) hk
  exact Rs_unless (qx_ib_not hj) c303_13 (by unfold qx_act; dsimp only; rw [h1]; rfl)
theorem c303_14 : qx_code 303 14 = some (14, .aload_n 0, 15, 0, 0, 0) := by decide +kernel
theorem s303_14 {L : Nat} {xs : Nat → Int32} {d x : Nat} {M : qxM} {st : List Value} {a1 a2 a3 : Option Value} {z : Nat} : Rs L xs (d) 303 14 [some (.ref z), a1, a2, a3] st M x = Rs L xs (d) 303 15 [some (.ref z), a1, a2, a3] (.ref z :: st) M x := Rs_next c303_14 rfl
theorem c303_15 : qx_code 303 15 = some (15, .invokevirtual 318, 18, 271, 1, 1922) := by decide +kernel
theorem s303_15 {L : Nat} {xs : Nat → Int32} {d x : Nat} {M : qxM} {st : List Value} {ls : qxL} {t : Nat} (hk : qx_kd t = 18) (hs : st.length ≤ 4) : Rs L xs (d + 1) 303 15 ls (.ref t :: st) M x = (Rs L xs d 271 0 [some (.ref t), none] [] M 0).bind (qx_kn L xs (d + 1) 303 15 18 271 ls st x) := by
  have h1 : qx_act L xs (qx_rt 303) (15, .invokevirtual 318, 18, 271, 1, 1922) ls (.ref t :: st) M = if 1 ≤ (.ref t :: st).length ∧ st.length ≤ 4 then some (.inr (.inr (.inr (271, [.ref t], st)))) else none := rfl
  rw [if_pos ⟨by simp [List.length_cons]; try omega, hs⟩] at h1
  have h2 := qx_kd_obj (k := 8) (by decide) hk
  exact Rs_call c303_15 h1 (by rw [show qx_args 271 [.ref t] = decide (qx_sh t = some (.inl 8)) from rfl]; exact decide_eq_true h2)
theorem c303_18 : qx_code 303 18 = some (18, .istore_n 3, 19, 0, 0, 0) := by decide +kernel
theorem s303_18i {L : Nat} {xs : Nat → Int32} {d x : Nat} {M : qxM} {st : List Value} {a0 a1 a3 : Option Value} {z : Int32} {y : Int32} : Rs L xs (d) 303 18 [a0, a1, some (.int y), a3] (.int z :: st) M x = Rs L xs (d) 303 19 [a0, a1, some (.int y), some (.int z)] st M x := Rs_next c303_18 rfl
theorem s303_18r {L : Nat} {xs : Nat → Int32} {d x : Nat} {M : qxM} {st : List Value} {a0 a1 a3 : Option Value} {z : Int32} {y : Nat} : Rs L xs (d) 303 18 [a0, a1, some (.ref y), a3] (.int z :: st) M x = Rs L xs (d) 303 19 [a0, a1, some (.ref y), some (.int z)] st M x := Rs_next c303_18 rfl
theorem s303_18n {L : Nat} {xs : Nat → Int32} {d x : Nat} {M : qxM} {st : List Value} {a0 a1 a3 : Option Value} {z : Int32} : Rs L xs (d) 303 18 [a0, a1, none, a3] (.int z :: st) M x = Rs L xs (d) 303 19 [a0, a1, none, some (.int z)] st M x := Rs_next c303_18 rfl
theorem c303_19 : qx_code 303 19 = some (19, .aload_n 0, 20, 0, 0, 0) := by decide +kernel
theorem s303_19 {L : Nat} {xs : Nat → Int32} {d x : Nat} {M : qxM} {st : List Value} {a1 a2 a3 : Option Value} {z : Nat} : Rs L xs (d) 303 19 [some (.ref z), a1, a2, a3] st M x = Rs L xs (d) 303 20 [some (.ref z), a1, a2, a3] (.ref z :: st) M x := Rs_next c303_19 rfl
theorem c303_20 : qx_code 303 20 = some (20, .getfield 9, 23, 8, 1, 1546) := by decide +kernel
theorem s303_20 {L : Nat} {xs : Nat → Int32} {d x : Nat} {M : qxM} {st : List Value} {ls : qxL} {t : Nat} (hk : qx_kd t = 18) : Rs L xs (d) 303 20 ls (.ref t :: st) M x = Rs L xs (d) 303 23 ls (.ref (t + 1) :: st) M x := Rs_when (qx_kd_obj (k := 8) (by decide) hk) c303_20 rfl
theorem c303_23 : qx_code 303 23 = some (23, .iconst 1, 24, 0, 0, 0) := by decide +kernel
theorem s303_23 {L : Nat} {xs : Nat → Int32} {d x : Nat} {M : qxM} {st : List Value} {ls : qxL} : Rs L xs (d) 303 23 ls st M x = Rs L xs (d) 303 24 ls (.int (nI 1) :: st) M x := Rs_next c303_23 rfl
theorem c303_24 : qx_code 303 24 = some (24, .iload_n 2, 25, 0, 0, 0) := by decide +kernel
theorem s303_24 {L : Nat} {xs : Nat → Int32} {d x : Nat} {M : qxM} {st : List Value} {a0 a1 a3 : Option Value} {z : Int32} : Rs L xs (d) 303 24 [a0, a1, some (.int z), a3] st M x = Rs L xs (d) 303 25 [a0, a1, some (.int z), a3] (.int z :: st) M x := Rs_next c303_24 rfl
theorem c303_25 : qx_code 303 25 = some (25, .iastore, 26, 0, 0, 0) := by decide +kernel
theorem s303_25 {L : Nat} {xs : Nat → Int32} {d x : Nat} {M : qxM} {st : List Value} {ls : qxL} {t : Nat} {j : Int32} {z : Int32} (hk : qx_kd t = 0) (hj : qx_ib j (qx_ln t) = true) : Rs L xs (d) 303 25 ls (.int z :: .int j :: .ref t :: st) M x = Rs L xs (d) 303 26 ls st (qx_up M t j.toNatClampNeg z) x := by
  have h1 := qx_kd_row (k := 0) (by decide) hk
  exact Rs_unless (qx_ib_not hj) c303_25 (by unfold qx_act; dsimp only; rw [h1]; rfl)
theorem c303_26 : qx_code 303 26 = some (26, .iload_n 3, 27, 0, 0, 0) := by decide +kernel
theorem s303_26 {L : Nat} {xs : Nat → Int32} {d x : Nat} {M : qxM} {st : List Value} {a0 a1 a2 : Option Value} {z : Int32} : Rs L xs (d) 303 26 [a0, a1, a2, some (.int z)] st M x = Rs L xs (d) 303 27 [a0, a1, a2, some (.int z)] (.int z :: st) M x := Rs_next c303_26 rfl
theorem c303_27 : qx_code 303 27 = some (27, .ireturn, 28, 0, 0, 0) := by decide +kernel
theorem s303_27 {L : Nat} {xs : Nat → Int32} {d x : Nat} {M : qxM} {ls : qxL} {z : Int32} : Rs L xs (d) 303 27 ls [.int z] M x = some (.inl (some (.int z)), M, x) := Rs_ret c303_27 rfl
theorem c304_0 : qx_code 304 0 = some (0, .aload_n 0, 1, 0, 0, 0) := by decide +kernel
theorem s304_0 {L : Nat} {xs : Nat → Int32} {d x : Nat} {M : qxM} {st : List Value} {a1 : Option Value} {z : Nat} : Rs L xs (d) 304 0 [some (.ref z), a1] st M x = Rs L xs (d) 304 1 [some (.ref z), a1] (.ref z :: st) M x := Rs_next c304_0 rfl
theorem c304_1 : qx_code 304 1 = some (1, .aload_n 0, 2, 0, 0, 0) := by decide +kernel
theorem s304_1 {L : Nat} {xs : Nat → Int32} {d x : Nat} {M : qxM} {st : List Value} {a1 : Option Value} {z : Nat} : Rs L xs (d) 304 1 [some (.ref z), a1] st M x = Rs L xs (d) 304 2 [some (.ref z), a1] (.ref z :: st) M x := Rs_next c304_1 rfl
theorem c304_2 : qx_code 304 2 = some (2, .getfield 187, 5, 8, 6, 1551) := by decide +kernel
theorem s304_2 {L : Nat} {xs : Nat → Int32} {d x : Nat} {M : qxM} {st : List Value} {ls : qxL} {t : Nat} (hk : qx_kd t = 18) : Rs L xs (d) 304 2 ls (.ref t :: st) M x = Rs L xs (d) 304 5 ls (.int (M.1 t 6) :: st) M x := Rs_when (qx_kd_obj (k := 8) (by decide) hk) c304_2 rfl
theorem c304_5 : qx_code 304 5 = some (5, .iload_n 1, 6, 0, 0, 0) := by decide +kernel
theorem s304_5 {L : Nat} {xs : Nat → Int32} {d x : Nat} {M : qxM} {st : List Value} {a0 : Option Value} {z : Int32} : Rs L xs (d) 304 5 [a0, some (.int z)] st M x = Rs L xs (d) 304 6 [a0, some (.int z)] (.int z :: st) M x := Rs_next c304_5 rfl
theorem c304_6 : qx_code 304 6 = some (6, .invokestatic 357, 9, 302, 1, 2054) := by decide +kernel
theorem s304_6 {L : Nat} {xs : Nat → Int32} {d x : Nat} {M : qxM} {st : List Value} {ls : qxL} {z0 : Int32} (hs : st.length ≤ 4) : Rs L xs (d + 1) 304 6 ls (.int z0 :: st) M x = (Rs L xs d 302 0 [some (.int z0)] [] M 0).bind (qx_kn L xs (d + 1) 304 6 9 302 ls st x) := by
  have h1 : qx_act L xs (qx_rt 304) (6, .invokestatic 357, 9, 302, 1, 2054) ls (.int z0 :: st) M = if 1 ≤ (.int z0 :: st).length ∧ st.length ≤ 4 then some (.inr (.inr (.inr (302, [.int z0], st)))) else none := rfl
  rw [if_pos ⟨by simp [List.length_cons]; try omega, hs⟩] at h1
  exact Rs_call c304_6 h1 rfl
theorem c304_9 : qx_code 304 9 = some (9, .invokevirtual 216, 12, 181, 3, 1773) := by decide +kernel
theorem s304_9 {L : Nat} {xs : Nat → Int32} {d x : Nat} {M : qxM} {st : List Value} {ls : qxL} {t : Nat} {z0 : Int32} {z1 : Int32} (hk : qx_kd t = 18) (hs : st.length ≤ 4) : Rs L xs (d + 1) 304 9 ls (.int z1 :: .int z0 :: .ref t :: st) M x = (Rs L xs d 181 0 [some (.ref t), some (.int z0), some (.int z1)] [] M 0).bind (qx_kn L xs (d + 1) 304 9 12 181 ls st x) := by
  have h1 : qx_act L xs (qx_rt 304) (9, .invokevirtual 216, 12, 181, 3, 1773) ls (.int z1 :: .int z0 :: .ref t :: st) M = if 3 ≤ (.int z1 :: .int z0 :: .ref t :: st).length ∧ st.length ≤ 4 then some (.inr (.inr (.inr (181, [.ref t, .int z0, .int z1], st)))) else none := rfl
  rw [if_pos ⟨by simp [List.length_cons]; try omega, hs⟩] at h1
  have h2 := qx_kd_obj (k := 8) (by decide) hk
  exact Rs_call c304_9 h1 (by rw [show qx_args 181 [.ref t, .int z0, .int z1] = decide (qx_sh t = some (.inl 8)) from rfl]; exact decide_eq_true h2)
theorem c304_12 : qx_code 304 12 = some (12, .ifCond .eq 11, 15, 23, 0, 0) := by decide +kernel
theorem s304_12 {L : Nat} {xs : Nat → Int32} {d x : Nat} {M : qxM} {st : List Value} {ls : qxL} {z : Int32} : Rs L xs (d) 304 12 ls (.int z :: st) M x = if z = 0 then Rs L xs (d) 304 23 ls st M x else Rs L xs (d) 304 15 ls st M x := Rs_ite c304_12 rfl
theorem c304_15 : qx_code 304 15 = some (15, .aload_n 0, 16, 0, 0, 0) := by decide +kernel
theorem s304_15 {L : Nat} {xs : Nat → Int32} {d x : Nat} {M : qxM} {st : List Value} {a1 : Option Value} {z : Nat} : Rs L xs (d) 304 15 [some (.ref z), a1] st M x = Rs L xs (d) 304 16 [some (.ref z), a1] (.ref z :: st) M x := Rs_next c304_15 rfl
theorem c304_16 : qx_code 304 16 = some (16, .iload_n 1, 17, 0, 0, 0) := by decide +kernel
theorem s304_16 {L : Nat} {xs : Nat → Int32} {d x : Nat} {M : qxM} {st : List Value} {a0 : Option Value} {z : Int32} : Rs L xs (d) 304 16 [a0, some (.int z)] st M x = Rs L xs (d) 304 17 [a0, some (.int z)] (.int z :: st) M x := Rs_next c304_16 rfl
theorem c304_17 : qx_code 304 17 = some (17, .invokevirtual 360, 20, 303, 2, 2057) := by decide +kernel
theorem s304_17 {L : Nat} {xs : Nat → Int32} {d x : Nat} {M : qxM} {st : List Value} {ls : qxL} {t : Nat} {z0 : Int32} (hk : qx_kd t = 18) (hs : st.length ≤ 4) : Rs L xs (d + 1) 304 17 ls (.int z0 :: .ref t :: st) M x = (Rs L xs d 303 0 [some (.ref t), some (.int z0), none, none] [] M 0).bind (qx_kn L xs (d + 1) 304 17 20 303 ls st x) := by
  have h1 : qx_act L xs (qx_rt 304) (17, .invokevirtual 360, 20, 303, 2, 2057) ls (.int z0 :: .ref t :: st) M = if 2 ≤ (.int z0 :: .ref t :: st).length ∧ st.length ≤ 4 then some (.inr (.inr (.inr (303, [.ref t, .int z0], st)))) else none := rfl
  rw [if_pos ⟨by simp [List.length_cons]; try omega, hs⟩] at h1
  have h2 := qx_kd_obj (k := 8) (by decide) hk
  exact Rs_call c304_17 h1 (by rw [show qx_args 303 [.ref t, .int z0] = decide (qx_sh t = some (.inl 8)) from rfl]; exact decide_eq_true h2)
theorem c304_20 : qx_code 304 20 = some (20, .goto 4, 23, 24, 0, 0) := by decide +kernel
theorem s304_20 {L : Nat} {xs : Nat → Int32} {d x : Nat} {M : qxM} {st : List Value} {ls : qxL} : Rs L xs (d) 304 20 ls st M x = Rs L xs (d) 304 24 ls st M x := Rs_next c304_20 rfl
theorem c304_23 : qx_code 304 23 = some (23, .iconst 0, 24, 0, 0, 0) := by decide +kernel
theorem s304_23 {L : Nat} {xs : Nat → Int32} {d x : Nat} {M : qxM} {st : List Value} {ls : qxL} : Rs L xs (d) 304 23 ls st M x = Rs L xs (d) 304 24 ls (.int (nI 0) :: st) M x := Rs_next c304_23 rfl
theorem c304_24 : qx_code 304 24 = some (24, .ireturn, 25, 0, 0, 0) := by decide +kernel
theorem s304_24 {L : Nat} {xs : Nat → Int32} {d x : Nat} {M : qxM} {ls : qxL} {z : Int32} : Rs L xs (d) 304 24 ls [.int z] M x = some (.inl (some (.int z)), M, x) := Rs_ret c304_24 rfl
theorem c305_0 : qx_code 305 0 = some (0, .aload_n 0, 1, 0, 0, 0) := by decide +kernel
theorem s305_0 {L : Nat} {xs : Nat → Int32} {d x : Nat} {M : qxM} {st : List Value} {a1 a2 a3 a4 : Option Value} {z : Nat} : Rs L xs (d) 305 0 [some (.ref z), a1, a2, a3, a4] st M x = Rs L xs (d) 305 1 [some (.ref z), a1, a2, a3, a4] (.ref z :: st) M x := Rs_next c305_0 rfl
theorem c305_1 : qx_code 305 1 = some (1, .invokevirtual 306, 4, 263, 1, 1882) := by decide +kernel
theorem s305_1 {L : Nat} {xs : Nat → Int32} {d x : Nat} {M : qxM} {st : List Value} {ls : qxL} {t : Nat} (hk : qx_kd t = 18) (hs : st.length ≤ 4) : Rs L xs (d + 1) 305 1 ls (.ref t :: st) M x = (Rs L xs d 263 0 [some (.ref t)] [] M 0).bind (qx_kn L xs (d + 1) 305 1 4 263 ls st x) := by
  have h1 : qx_act L xs (qx_rt 305) (1, .invokevirtual 306, 4, 263, 1, 1882) ls (.ref t :: st) M = if 1 ≤ (.ref t :: st).length ∧ st.length ≤ 4 then some (.inr (.inr (.inr (263, [.ref t], st)))) else none := rfl
  rw [if_pos ⟨by simp [List.length_cons]; try omega, hs⟩] at h1
  have h2 := qx_kd_obj (k := 8) (by decide) hk
  exact Rs_call c305_1 h1 (by rw [show qx_args 263 [.ref t] = decide (qx_sh t = some (.inl 8)) from rfl]; exact decide_eq_true h2)
theorem c305_4 : qx_code 305 4 = some (4, .ifCond .ne 5, 7, 9, 0, 0) := by decide +kernel
theorem s305_4 {L : Nat} {xs : Nat → Int32} {d x : Nat} {M : qxM} {st : List Value} {ls : qxL} {z : Int32} : Rs L xs (d) 305 4 ls (.int z :: st) M x = if z = 0 then Rs L xs (d) 305 7 ls st M x else Rs L xs (d) 305 9 ls st M x := Rs_ite c305_4 rfl
theorem c305_7 : qx_code 305 7 = some (7, .iconst 0, 8, 0, 0, 0) := by decide +kernel
theorem s305_7 {L : Nat} {xs : Nat → Int32} {d x : Nat} {M : qxM} {st : List Value} {ls : qxL} : Rs L xs (d) 305 7 ls st M x = Rs L xs (d) 305 8 ls (.int (nI 0) :: st) M x := Rs_next c305_7 rfl
theorem c305_8 : qx_code 305 8 = some (8, .ireturn, 9, 0, 0, 0) := by decide +kernel
theorem s305_8 {L : Nat} {xs : Nat → Int32} {d x : Nat} {M : qxM} {ls : qxL} {z : Int32} : Rs L xs (d) 305 8 ls [.int z] M x = some (.inl (some (.int z)), M, x) := Rs_ret c305_8 rfl
theorem c305_9 : qx_code 305 9 = some (9, .iconst 0, 10, 0, 0, 0) := by decide +kernel
theorem s305_9 {L : Nat} {xs : Nat → Int32} {d x : Nat} {M : qxM} {st : List Value} {ls : qxL} : Rs L xs (d) 305 9 ls st M x = Rs L xs (d) 305 10 ls (.int (nI 0) :: st) M x := Rs_next c305_9 rfl
theorem c305_10 : qx_code 305 10 = some (10, .istore_n 1, 11, 0, 0, 0) := by decide +kernel
theorem s305_10i {L : Nat} {xs : Nat → Int32} {d x : Nat} {M : qxM} {st : List Value} {a1 a2 a3 a4 : Option Value} {z : Int32} {y : Int32} : Rs L xs (d) 305 10 [some (.int y), a1, a2, a3, a4] (.int z :: st) M x = Rs L xs (d) 305 11 [some (.int y), some (.int z), a2, a3, a4] st M x := Rs_next c305_10 rfl
theorem s305_10r {L : Nat} {xs : Nat → Int32} {d x : Nat} {M : qxM} {st : List Value} {a1 a2 a3 a4 : Option Value} {z : Int32} {y : Nat} : Rs L xs (d) 305 10 [some (.ref y), a1, a2, a3, a4] (.int z :: st) M x = Rs L xs (d) 305 11 [some (.ref y), some (.int z), a2, a3, a4] st M x := Rs_next c305_10 rfl
theorem s305_10n {L : Nat} {xs : Nat → Int32} {d x : Nat} {M : qxM} {st : List Value} {a1 a2 a3 a4 : Option Value} {z : Int32} : Rs L xs (d) 305 10 [none, a1, a2, a3, a4] (.int z :: st) M x = Rs L xs (d) 305 11 [none, some (.int z), a2, a3, a4] st M x := Rs_next c305_10 rfl
theorem c305_11 : qx_code 305 11 = some (11, .aload_n 0, 12, 0, 0, 0) := by decide +kernel
theorem s305_11 {L : Nat} {xs : Nat → Int32} {d x : Nat} {M : qxM} {st : List Value} {a1 a2 a3 a4 : Option Value} {z : Nat} : Rs L xs (d) 305 11 [some (.ref z), a1, a2, a3, a4] st M x = Rs L xs (d) 305 12 [some (.ref z), a1, a2, a3, a4] (.ref z :: st) M x := Rs_next c305_11 rfl
theorem c305_12 : qx_code 305 12 = some (12, .iconst 0, 13, 0, 0, 0) := by decide +kernel
theorem s305_12 {L : Nat} {xs : Nat → Int32} {d x : Nat} {M : qxM} {st : List Value} {ls : qxL} : Rs L xs (d) 305 12 ls st M x = Rs L xs (d) 305 13 ls (.int (nI 0) :: st) M x := Rs_next c305_12 rfl
theorem c305_13 : qx_code 305 13 = some (13, .invokevirtual 360, 16, 303, 2, 2057) := by decide +kernel
theorem s305_13 {L : Nat} {xs : Nat → Int32} {d x : Nat} {M : qxM} {st : List Value} {ls : qxL} {t : Nat} {z0 : Int32} (hk : qx_kd t = 18) (hs : st.length ≤ 4) : Rs L xs (d + 1) 305 13 ls (.int z0 :: .ref t :: st) M x = (Rs L xs d 303 0 [some (.ref t), some (.int z0), none, none] [] M 0).bind (qx_kn L xs (d + 1) 305 13 16 303 ls st x) := by
  have h1 : qx_act L xs (qx_rt 305) (13, .invokevirtual 360, 16, 303, 2, 2057) ls (.int z0 :: .ref t :: st) M = if 2 ≤ (.int z0 :: .ref t :: st).length ∧ st.length ≤ 4 then some (.inr (.inr (.inr (303, [.ref t, .int z0], st)))) else none := rfl
  rw [if_pos ⟨by simp [List.length_cons]; try omega, hs⟩] at h1
  have h2 := qx_kd_obj (k := 8) (by decide) hk
  exact Rs_call c305_13 h1 (by rw [show qx_args 303 [.ref t, .int z0] = decide (qx_sh t = some (.inl 8)) from rfl]; exact decide_eq_true h2)
theorem c305_16 : qx_code 305 16 = some (16, .istore_n 2, 17, 0, 0, 0) := by decide +kernel
theorem s305_16i {L : Nat} {xs : Nat → Int32} {d x : Nat} {M : qxM} {st : List Value} {a0 a2 a3 a4 : Option Value} {z : Int32} {y : Int32} : Rs L xs (d) 305 16 [a0, some (.int y), a2, a3, a4] (.int z :: st) M x = Rs L xs (d) 305 17 [a0, some (.int y), some (.int z), a3, a4] st M x := Rs_next c305_16 rfl
theorem s305_16r {L : Nat} {xs : Nat → Int32} {d x : Nat} {M : qxM} {st : List Value} {a0 a2 a3 a4 : Option Value} {z : Int32} {y : Nat} : Rs L xs (d) 305 16 [a0, some (.ref y), a2, a3, a4] (.int z :: st) M x = Rs L xs (d) 305 17 [a0, some (.ref y), some (.int z), a3, a4] st M x := Rs_next c305_16 rfl
theorem s305_16n {L : Nat} {xs : Nat → Int32} {d x : Nat} {M : qxM} {st : List Value} {a0 a2 a3 a4 : Option Value} {z : Int32} : Rs L xs (d) 305 16 [a0, none, a2, a3, a4] (.int z :: st) M x = Rs L xs (d) 305 17 [a0, none, some (.int z), a3, a4] st M x := Rs_next c305_16 rfl
theorem c305_17 : qx_code 305 17 = some (17, .iconst 1, 18, 0, 0, 0) := by decide +kernel
theorem s305_17 {L : Nat} {xs : Nat → Int32} {d x : Nat} {M : qxM} {st : List Value} {ls : qxL} : Rs L xs (d) 305 17 ls st M x = Rs L xs (d) 305 18 ls (.int (nI 1) :: st) M x := Rs_next c305_17 rfl
theorem c305_18 : qx_code 305 18 = some (18, .istore_n 3, 19, 0, 0, 0) := by decide +kernel
theorem s305_18i {L : Nat} {xs : Nat → Int32} {d x : Nat} {M : qxM} {st : List Value} {a0 a1 a3 a4 : Option Value} {z : Int32} {y : Int32} : Rs L xs (d) 305 18 [a0, a1, some (.int y), a3, a4] (.int z :: st) M x = Rs L xs (d) 305 19 [a0, a1, some (.int y), some (.int z), a4] st M x := Rs_next c305_18 rfl
theorem s305_18r {L : Nat} {xs : Nat → Int32} {d x : Nat} {M : qxM} {st : List Value} {a0 a1 a3 a4 : Option Value} {z : Int32} {y : Nat} : Rs L xs (d) 305 18 [a0, a1, some (.ref y), a3, a4] (.int z :: st) M x = Rs L xs (d) 305 19 [a0, a1, some (.ref y), some (.int z), a4] st M x := Rs_next c305_18 rfl
theorem s305_18n {L : Nat} {xs : Nat → Int32} {d x : Nat} {M : qxM} {st : List Value} {a0 a1 a3 a4 : Option Value} {z : Int32} : Rs L xs (d) 305 18 [a0, a1, none, a3, a4] (.int z :: st) M x = Rs L xs (d) 305 19 [a0, a1, none, some (.int z), a4] st M x := Rs_next c305_18 rfl
theorem c305_19 : qx_code 305 19 = some (19, .iload_n 3, 20, 0, 0, 0) := by decide +kernel
theorem s305_19 {L : Nat} {xs : Nat → Int32} {d x : Nat} {M : qxM} {st : List Value} {a0 a1 a2 a4 : Option Value} {z : Int32} : Rs L xs (d) 305 19 [a0, a1, a2, some (.int z), a4] st M x = Rs L xs (d) 305 20 [a0, a1, a2, some (.int z), a4] (.int z :: st) M x := Rs_next c305_19 rfl
theorem c305_20 : qx_code 305 20 = some (20, .invokestatic 357, 23, 302, 1, 2054) := by decide +kernel
theorem s305_20 {L : Nat} {xs : Nat → Int32} {d x : Nat} {M : qxM} {st : List Value} {ls : qxL} {z0 : Int32} (hs : st.length ≤ 4) : Rs L xs (d + 1) 305 20 ls (.int z0 :: st) M x = (Rs L xs d 302 0 [some (.int z0)] [] M 0).bind (qx_kn L xs (d + 1) 305 20 23 302 ls st x) := by
  have h1 : qx_act L xs (qx_rt 305) (20, .invokestatic 357, 23, 302, 1, 2054) ls (.int z0 :: st) M = if 1 ≤ (.int z0 :: st).length ∧ st.length ≤ 4 then some (.inr (.inr (.inr (302, [.int z0], st)))) else none := rfl
  rw [if_pos ⟨by simp [List.length_cons]; try omega, hs⟩] at h1
  exact Rs_call c305_20 h1 rfl
theorem c305_23 : qx_code 305 23 = some (23, .ifCond .eq 30, 26, 53, 0, 0) := by decide +kernel
theorem s305_23 {L : Nat} {xs : Nat → Int32} {d x : Nat} {M : qxM} {st : List Value} {ls : qxL} {z : Int32} : Rs L xs (d) 305 23 ls (.int z :: st) M x = if z = 0 then Rs L xs (d) 305 53 ls st M x else Rs L xs (d) 305 26 ls st M x := Rs_ite c305_23 rfl
theorem c305_26 : qx_code 305 26 = some (26, .aload_n 0, 27, 0, 0, 0) := by decide +kernel
theorem s305_26 {L : Nat} {xs : Nat → Int32} {d x : Nat} {M : qxM} {st : List Value} {a1 a2 a3 a4 : Option Value} {z : Nat} : Rs L xs (d) 305 26 [some (.ref z), a1, a2, a3, a4] st M x = Rs L xs (d) 305 27 [some (.ref z), a1, a2, a3, a4] (.ref z :: st) M x := Rs_next c305_26 rfl
theorem c305_27 : qx_code 305 27 = some (27, .iload_n 3, 28, 0, 0, 0) := by decide +kernel
theorem s305_27 {L : Nat} {xs : Nat → Int32} {d x : Nat} {M : qxM} {st : List Value} {a0 a1 a2 a4 : Option Value} {z : Int32} : Rs L xs (d) 305 27 [a0, a1, a2, some (.int z), a4] st M x = Rs L xs (d) 305 28 [a0, a1, a2, some (.int z), a4] (.int z :: st) M x := Rs_next c305_27 rfl
theorem c305_28 : qx_code 305 28 = some (28, .invokevirtual 360, 31, 303, 2, 2057) := by decide +kernel
theorem s305_28 {L : Nat} {xs : Nat → Int32} {d x : Nat} {M : qxM} {st : List Value} {ls : qxL} {t : Nat} {z0 : Int32} (hk : qx_kd t = 18) (hs : st.length ≤ 4) : Rs L xs (d + 1) 305 28 ls (.int z0 :: .ref t :: st) M x = (Rs L xs d 303 0 [some (.ref t), some (.int z0), none, none] [] M 0).bind (qx_kn L xs (d + 1) 305 28 31 303 ls st x) := by
  have h1 : qx_act L xs (qx_rt 305) (28, .invokevirtual 360, 31, 303, 2, 2057) ls (.int z0 :: .ref t :: st) M = if 2 ≤ (.int z0 :: .ref t :: st).length ∧ st.length ≤ 4 then some (.inr (.inr (.inr (303, [.ref t, .int z0], st)))) else none := rfl
  rw [if_pos ⟨by simp [List.length_cons]; try omega, hs⟩] at h1
  have h2 := qx_kd_obj (k := 8) (by decide) hk
  exact Rs_call c305_28 h1 (by rw [show qx_args 303 [.ref t, .int z0] = decide (qx_sh t = some (.inl 8)) from rfl]; exact decide_eq_true h2)
theorem c305_31 : qx_code 305 31 = some (31, .istore 4, 33, 0, 0, 0) := by decide +kernel
theorem s305_31i {L : Nat} {xs : Nat → Int32} {d x : Nat} {M : qxM} {st : List Value} {a0 a1 a2 a4 : Option Value} {z : Int32} {y : Int32} : Rs L xs (d) 305 31 [a0, a1, a2, some (.int y), a4] (.int z :: st) M x = Rs L xs (d) 305 33 [a0, a1, a2, some (.int y), some (.int z)] st M x := Rs_next c305_31 rfl
theorem s305_31r {L : Nat} {xs : Nat → Int32} {d x : Nat} {M : qxM} {st : List Value} {a0 a1 a2 a4 : Option Value} {z : Int32} {y : Nat} : Rs L xs (d) 305 31 [a0, a1, a2, some (.ref y), a4] (.int z :: st) M x = Rs L xs (d) 305 33 [a0, a1, a2, some (.ref y), some (.int z)] st M x := Rs_next c305_31 rfl
theorem s305_31n {L : Nat} {xs : Nat → Int32} {d x : Nat} {M : qxM} {st : List Value} {a0 a1 a2 a4 : Option Value} {z : Int32} : Rs L xs (d) 305 31 [a0, a1, a2, none, a4] (.int z :: st) M x = Rs L xs (d) 305 33 [a0, a1, a2, none, some (.int z)] st M x := Rs_next c305_31 rfl
theorem c305_33 : qx_code 305 33 = some (33, .iload 4, 35, 0, 0, 0) := by decide +kernel
theorem s305_33 {L : Nat} {xs : Nat → Int32} {d x : Nat} {M : qxM} {st : List Value} {a0 a1 a2 a3 : Option Value} {z : Int32} : Rs L xs (d) 305 33 [a0, a1, a2, a3, some (.int z)] st M x = Rs L xs (d) 305 35 [a0, a1, a2, a3, some (.int z)] (.int z :: st) M x := Rs_next c305_33 rfl
theorem c305_35 : qx_code 305 35 = some (35, .iload_n 2, 36, 0, 0, 0) := by decide +kernel
theorem s305_35 {L : Nat} {xs : Nat → Int32} {d x : Nat} {M : qxM} {st : List Value} {a0 a1 a3 a4 : Option Value} {z : Int32} : Rs L xs (d) 305 35 [a0, a1, some (.int z), a3, a4] st M x = Rs L xs (d) 305 36 [a0, a1, some (.int z), a3, a4] (.int z :: st) M x := Rs_next c305_35 rfl
theorem c305_36 : qx_code 305 36 = some (36, .if_icmp .gt 6, 39, 42, 0, 0) := by decide +kernel
theorem s305_36 {L : Nat} {xs : Nat → Int32} {d x : Nat} {M : qxM} {st : List Value} {ls : qxL} {z y : Int32} : Rs L xs (d) 305 36 ls (.int y :: .int z :: st) M x = if y < z then Rs L xs (d) 305 42 ls st M x else Rs L xs (d) 305 39 ls st M x := Rs_ite c305_36 rfl
theorem c305_39 : qx_code 305 39 = some (39, .goto 8, 42, 47, 0, 0) := by decide +kernel
theorem s305_39 {L : Nat} {xs : Nat → Int32} {d x : Nat} {M : qxM} {st : List Value} {ls : qxL} : Rs L xs (d) 305 39 ls st M x = Rs L xs (d) 305 47 ls st M x := Rs_next c305_39 rfl
theorem c305_42 : qx_code 305 42 = some (42, .iload_n 3, 43, 0, 0, 0) := by decide +kernel
theorem s305_42 {L : Nat} {xs : Nat → Int32} {d x : Nat} {M : qxM} {st : List Value} {a0 a1 a2 a4 : Option Value} {z : Int32} : Rs L xs (d) 305 42 [a0, a1, a2, some (.int z), a4] st M x = Rs L xs (d) 305 43 [a0, a1, a2, some (.int z), a4] (.int z :: st) M x := Rs_next c305_42 rfl
theorem c305_43 : qx_code 305 43 = some (43, .istore_n 1, 44, 0, 0, 0) := by decide +kernel
theorem s305_43i {L : Nat} {xs : Nat → Int32} {d x : Nat} {M : qxM} {st : List Value} {a1 a2 a3 a4 : Option Value} {z : Int32} {y : Int32} : Rs L xs (d) 305 43 [some (.int y), a1, a2, a3, a4] (.int z :: st) M x = Rs L xs (d) 305 44 [some (.int y), some (.int z), a2, a3, a4] st M x := Rs_next c305_43 rfl
theorem s305_43r {L : Nat} {xs : Nat → Int32} {d x : Nat} {M : qxM} {st : List Value} {a1 a2 a3 a4 : Option Value} {z : Int32} {y : Nat} : Rs L xs (d) 305 43 [some (.ref y), a1, a2, a3, a4] (.int z :: st) M x = Rs L xs (d) 305 44 [some (.ref y), some (.int z), a2, a3, a4] st M x := Rs_next c305_43 rfl
theorem s305_43n {L : Nat} {xs : Nat → Int32} {d x : Nat} {M : qxM} {st : List Value} {a1 a2 a3 a4 : Option Value} {z : Int32} : Rs L xs (d) 305 43 [none, a1, a2, a3, a4] (.int z :: st) M x = Rs L xs (d) 305 44 [none, some (.int z), a2, a3, a4] st M x := Rs_next c305_43 rfl
theorem c305_44 : qx_code 305 44 = some (44, .iload 4, 46, 0, 0, 0) := by decide +kernel
theorem s305_44 {L : Nat} {xs : Nat → Int32} {d x : Nat} {M : qxM} {st : List Value} {a0 a1 a2 a3 : Option Value} {z : Int32} : Rs L xs (d) 305 44 [a0, a1, a2, a3, some (.int z)] st M x = Rs L xs (d) 305 46 [a0, a1, a2, a3, some (.int z)] (.int z :: st) M x := Rs_next c305_44 rfl
theorem c305_46 : qx_code 305 46 = some (46, .istore_n 2, 47, 0, 0, 0) := by decide +kernel
theorem s305_46i {L : Nat} {xs : Nat → Int32} {d x : Nat} {M : qxM} {st : List Value} {a0 a2 a3 a4 : Option Value} {z : Int32} {y : Int32} : Rs L xs (d) 305 46 [a0, some (.int y), a2, a3, a4] (.int z :: st) M x = Rs L xs (d) 305 47 [a0, some (.int y), some (.int z), a3, a4] st M x := Rs_next c305_46 rfl
theorem s305_46r {L : Nat} {xs : Nat → Int32} {d x : Nat} {M : qxM} {st : List Value} {a0 a2 a3 a4 : Option Value} {z : Int32} {y : Nat} : Rs L xs (d) 305 46 [a0, some (.ref y), a2, a3, a4] (.int z :: st) M x = Rs L xs (d) 305 47 [a0, some (.ref y), some (.int z), a3, a4] st M x := Rs_next c305_46 rfl
theorem s305_46n {L : Nat} {xs : Nat → Int32} {d x : Nat} {M : qxM} {st : List Value} {a0 a2 a3 a4 : Option Value} {z : Int32} : Rs L xs (d) 305 46 [a0, none, a2, a3, a4] (.int z :: st) M x = Rs L xs (d) 305 47 [a0, none, some (.int z), a3, a4] st M x := Rs_next c305_46 rfl
theorem c305_47 : qx_code 305 47 = some (47, .iinc 3 1, 50, 0, 0, 0) := by decide +kernel
theorem s305_47i {L : Nat} {xs : Nat → Int32} {d x : Nat} {M : qxM} {st : List Value} {a0 a1 a4 : Option Value} {z : Int32} {y : Int32} : Rs L xs (d) 305 47 [a0, a1, some (.int y), some (.int z), a4] st M x = Rs L xs (d) 305 50 [a0, a1, some (.int y), some (.int (z + (nI 1))), a4] st M x := Rs_next c305_47 rfl
theorem s305_47r {L : Nat} {xs : Nat → Int32} {d x : Nat} {M : qxM} {st : List Value} {a0 a1 a4 : Option Value} {z : Int32} {y : Nat} : Rs L xs (d) 305 47 [a0, a1, some (.ref y), some (.int z), a4] st M x = Rs L xs (d) 305 50 [a0, a1, some (.ref y), some (.int (z + (nI 1))), a4] st M x := Rs_next c305_47 rfl
theorem s305_47n {L : Nat} {xs : Nat → Int32} {d x : Nat} {M : qxM} {st : List Value} {a0 a1 a4 : Option Value} {z : Int32} : Rs L xs (d) 305 47 [a0, a1, none, some (.int z), a4] st M x = Rs L xs (d) 305 50 [a0, a1, none, some (.int (z + (nI 1))), a4] st M x := Rs_next c305_47 rfl
theorem c305_50 : qx_code 305 50 = some (50, .goto (-31), 53, 19, 0, 0) := by decide +kernel
theorem s305_50 {L : Nat} {xs : Nat → Int32} {d x : Nat} {M : qxM} {st : List Value} {ls : qxL} : Rs L xs (d) 305 50 ls st M x = Rs L xs (d) 305 19 ls st M x := Rs_next c305_50 rfl
theorem c305_53 : qx_code 305 53 = some (53, .iload_n 1, 54, 0, 0, 0) := by decide +kernel
theorem s305_53 {L : Nat} {xs : Nat → Int32} {d x : Nat} {M : qxM} {st : List Value} {a0 a2 a3 a4 : Option Value} {z : Int32} : Rs L xs (d) 305 53 [a0, some (.int z), a2, a3, a4] st M x = Rs L xs (d) 305 54 [a0, some (.int z), a2, a3, a4] (.int z :: st) M x := Rs_next c305_53 rfl
theorem c305_54 : qx_code 305 54 = some (54, .ireturn, 55, 0, 0, 0) := by decide +kernel
theorem s305_54 {L : Nat} {xs : Nat → Int32} {d x : Nat} {M : qxM} {ls : qxL} {z : Int32} : Rs L xs (d) 305 54 ls [.int z] M x = some (.inl (some (.int z)), M, x) := Rs_ret c305_54 rfl
theorem c306_0 : qx_code 306 0 = some (0, .aload_n 0, 1, 0, 0, 0) := by decide +kernel
theorem s306_0 {L : Nat} {xs : Nat → Int32} {d x : Nat} {M : qxM} {st : List Value} {a1 a2 a3 a4 : Option Value} {z : Nat} : Rs L xs (d) 306 0 [some (.ref z), a1, a2, a3, a4] st M x = Rs L xs (d) 306 1 [some (.ref z), a1, a2, a3, a4] (.ref z :: st) M x := Rs_next c306_0 rfl
theorem c306_1 : qx_code 306 1 = some (1, .invokevirtual 306, 4, 263, 1, 1882) := by decide +kernel
theorem s306_1 {L : Nat} {xs : Nat → Int32} {d x : Nat} {M : qxM} {st : List Value} {ls : qxL} {t : Nat} (hk : qx_kd t = 18) (hs : st.length ≤ 4) : Rs L xs (d + 1) 306 1 ls (.ref t :: st) M x = (Rs L xs d 263 0 [some (.ref t)] [] M 0).bind (qx_kn L xs (d + 1) 306 1 4 263 ls st x) := by
  have h1 : qx_act L xs (qx_rt 306) (1, .invokevirtual 306, 4, 263, 1, 1882) ls (.ref t :: st) M = if 1 ≤ (.ref t :: st).length ∧ st.length ≤ 4 then some (.inr (.inr (.inr (263, [.ref t], st)))) else none := rfl
  rw [if_pos ⟨by simp [List.length_cons]; try omega, hs⟩] at h1
  have h2 := qx_kd_obj (k := 8) (by decide) hk
  exact Rs_call c306_1 h1 (by rw [show qx_args 263 [.ref t] = decide (qx_sh t = some (.inl 8)) from rfl]; exact decide_eq_true h2)
theorem c306_4 : qx_code 306 4 = some (4, .ifCond .ne 5, 7, 9, 0, 0) := by decide +kernel
theorem s306_4 {L : Nat} {xs : Nat → Int32} {d x : Nat} {M : qxM} {st : List Value} {ls : qxL} {z : Int32} : Rs L xs (d) 306 4 ls (.int z :: st) M x = if z = 0 then Rs L xs (d) 306 7 ls st M x else Rs L xs (d) 306 9 ls st M x := Rs_ite c306_4 rfl
theorem c306_7 : qx_code 306 7 = some (7, .iconst 0, 8, 0, 0, 0) := by decide +kernel
theorem s306_7 {L : Nat} {xs : Nat → Int32} {d x : Nat} {M : qxM} {st : List Value} {ls : qxL} : Rs L xs (d) 306 7 ls st M x = Rs L xs (d) 306 8 ls (.int (nI 0) :: st) M x := Rs_next c306_7 rfl
theorem c306_8 : qx_code 306 8 = some (8, .ireturn, 9, 0, 0, 0) := by decide +kernel
theorem s306_8 {L : Nat} {xs : Nat → Int32} {d x : Nat} {M : qxM} {ls : qxL} {z : Int32} : Rs L xs (d) 306 8 ls [.int z] M x = some (.inl (some (.int z)), M, x) := Rs_ret c306_8 rfl
theorem c306_9 : qx_code 306 9 = some (9, .aload_n 0, 10, 0, 0, 0) := by decide +kernel
theorem s306_9 {L : Nat} {xs : Nat → Int32} {d x : Nat} {M : qxM} {st : List Value} {a1 a2 a3 a4 : Option Value} {z : Nat} : Rs L xs (d) 306 9 [some (.ref z), a1, a2, a3, a4] st M x = Rs L xs (d) 306 10 [some (.ref z), a1, a2, a3, a4] (.ref z :: st) M x := Rs_next c306_9 rfl
theorem c306_10 : qx_code 306 10 = some (10, .invokevirtual 318, 13, 271, 1, 1922) := by decide +kernel
theorem s306_10 {L : Nat} {xs : Nat → Int32} {d x : Nat} {M : qxM} {st : List Value} {ls : qxL} {t : Nat} (hk : qx_kd t = 18) (hs : st.length ≤ 4) : Rs L xs (d + 1) 306 10 ls (.ref t :: st) M x = (Rs L xs d 271 0 [some (.ref t), none] [] M 0).bind (qx_kn L xs (d + 1) 306 10 13 271 ls st x) := by
  have h1 : qx_act L xs (qx_rt 306) (10, .invokevirtual 318, 13, 271, 1, 1922) ls (.ref t :: st) M = if 1 ≤ (.ref t :: st).length ∧ st.length ≤ 4 then some (.inr (.inr (.inr (271, [.ref t], st)))) else none := rfl
  rw [if_pos ⟨by simp [List.length_cons]; try omega, hs⟩] at h1
  have h2 := qx_kd_obj (k := 8) (by decide) hk
  exact Rs_call c306_10 h1 (by rw [show qx_args 271 [.ref t] = decide (qx_sh t = some (.inl 8)) from rfl]; exact decide_eq_true h2)
theorem c306_13 : qx_code 306 13 = some (13, .istore_n 1, 14, 0, 0, 0) := by decide +kernel
theorem s306_13i {L : Nat} {xs : Nat → Int32} {d x : Nat} {M : qxM} {st : List Value} {a1 a2 a3 a4 : Option Value} {z : Int32} {y : Int32} : Rs L xs (d) 306 13 [some (.int y), a1, a2, a3, a4] (.int z :: st) M x = Rs L xs (d) 306 14 [some (.int y), some (.int z), a2, a3, a4] st M x := Rs_next c306_13 rfl
theorem s306_13r {L : Nat} {xs : Nat → Int32} {d x : Nat} {M : qxM} {st : List Value} {a1 a2 a3 a4 : Option Value} {z : Int32} {y : Nat} : Rs L xs (d) 306 13 [some (.ref y), a1, a2, a3, a4] (.int z :: st) M x = Rs L xs (d) 306 14 [some (.ref y), some (.int z), a2, a3, a4] st M x := Rs_next c306_13 rfl
theorem s306_13n {L : Nat} {xs : Nat → Int32} {d x : Nat} {M : qxM} {st : List Value} {a1 a2 a3 a4 : Option Value} {z : Int32} : Rs L xs (d) 306 13 [none, a1, a2, a3, a4] (.int z :: st) M x = Rs L xs (d) 306 14 [none, some (.int z), a2, a3, a4] st M x := Rs_next c306_13 rfl
theorem c306_14 : qx_code 306 14 = some (14, .iconst 0, 15, 0, 0, 0) := by decide +kernel
theorem s306_14 {L : Nat} {xs : Nat → Int32} {d x : Nat} {M : qxM} {st : List Value} {ls : qxL} : Rs L xs (d) 306 14 ls st M x = Rs L xs (d) 306 15 ls (.int (nI 0) :: st) M x := Rs_next c306_14 rfl
theorem c306_15 : qx_code 306 15 = some (15, .istore_n 2, 16, 0, 0, 0) := by decide +kernel
theorem s306_15i {L : Nat} {xs : Nat → Int32} {d x : Nat} {M : qxM} {st : List Value} {a0 a2 a3 a4 : Option Value} {z : Int32} {y : Int32} : Rs L xs (d) 306 15 [a0, some (.int y), a2, a3, a4] (.int z :: st) M x = Rs L xs (d) 306 16 [a0, some (.int y), some (.int z), a3, a4] st M x := Rs_next c306_15 rfl
theorem s306_15r {L : Nat} {xs : Nat → Int32} {d x : Nat} {M : qxM} {st : List Value} {a0 a2 a3 a4 : Option Value} {z : Int32} {y : Nat} : Rs L xs (d) 306 15 [a0, some (.ref y), a2, a3, a4] (.int z :: st) M x = Rs L xs (d) 306 16 [a0, some (.ref y), some (.int z), a3, a4] st M x := Rs_next c306_15 rfl
theorem s306_15n {L : Nat} {xs : Nat → Int32} {d x : Nat} {M : qxM} {st : List Value} {a0 a2 a3 a4 : Option Value} {z : Int32} : Rs L xs (d) 306 15 [a0, none, a2, a3, a4] (.int z :: st) M x = Rs L xs (d) 306 16 [a0, none, some (.int z), a3, a4] st M x := Rs_next c306_15 rfl
theorem c306_16 : qx_code 306 16 = some (16, .iconst 0, 17, 0, 0, 0) := by decide +kernel
theorem s306_16 {L : Nat} {xs : Nat → Int32} {d x : Nat} {M : qxM} {st : List Value} {ls : qxL} : Rs L xs (d) 306 16 ls st M x = Rs L xs (d) 306 17 ls (.int (nI 0) :: st) M x := Rs_next c306_16 rfl
theorem c306_17 : qx_code 306 17 = some (17, .istore_n 3, 18, 0, 0, 0) := by decide +kernel
theorem s306_17i {L : Nat} {xs : Nat → Int32} {d x : Nat} {M : qxM} {st : List Value} {a0 a1 a3 a4 : Option Value} {z : Int32} {y : Int32} : Rs L xs (d) 306 17 [a0, a1, some (.int y), a3, a4] (.int z :: st) M x = Rs L xs (d) 306 18 [a0, a1, some (.int y), some (.int z), a4] st M x := Rs_next c306_17 rfl
theorem s306_17r {L : Nat} {xs : Nat → Int32} {d x : Nat} {M : qxM} {st : List Value} {a0 a1 a3 a4 : Option Value} {z : Int32} {y : Nat} : Rs L xs (d) 306 17 [a0, a1, some (.ref y), a3, a4] (.int z :: st) M x = Rs L xs (d) 306 18 [a0, a1, some (.ref y), some (.int z), a4] st M x := Rs_next c306_17 rfl
theorem s306_17n {L : Nat} {xs : Nat → Int32} {d x : Nat} {M : qxM} {st : List Value} {a0 a1 a3 a4 : Option Value} {z : Int32} : Rs L xs (d) 306 17 [a0, a1, none, a3, a4] (.int z :: st) M x = Rs L xs (d) 306 18 [a0, a1, none, some (.int z), a4] st M x := Rs_next c306_17 rfl
theorem c306_18 : qx_code 306 18 = some (18, .iload_n 3, 19, 0, 0, 0) := by decide +kernel
theorem s306_18 {L : Nat} {xs : Nat → Int32} {d x : Nat} {M : qxM} {st : List Value} {a0 a1 a2 a4 : Option Value} {z : Int32} : Rs L xs (d) 306 18 [a0, a1, a2, some (.int z), a4] st M x = Rs L xs (d) 306 19 [a0, a1, a2, some (.int z), a4] (.int z :: st) M x := Rs_next c306_18 rfl
theorem c306_19 : qx_code 306 19 = some (19, .aload_n 0, 20, 0, 0, 0) := by decide +kernel
theorem s306_19 {L : Nat} {xs : Nat → Int32} {d x : Nat} {M : qxM} {st : List Value} {a1 a2 a3 a4 : Option Value} {z : Nat} : Rs L xs (d) 306 19 [some (.ref z), a1, a2, a3, a4] st M x = Rs L xs (d) 306 20 [some (.ref z), a1, a2, a3, a4] (.ref z :: st) M x := Rs_next c306_19 rfl
theorem c306_20 : qx_code 306 20 = some (20, .getfield 9, 23, 8, 1, 1546) := by decide +kernel
theorem s306_20 {L : Nat} {xs : Nat → Int32} {d x : Nat} {M : qxM} {st : List Value} {ls : qxL} {t : Nat} (hk : qx_kd t = 18) : Rs L xs (d) 306 20 ls (.ref t :: st) M x = Rs L xs (d) 306 23 ls (.ref (t + 1) :: st) M x := Rs_when (qx_kd_obj (k := 8) (by decide) hk) c306_20 rfl
theorem c306_23 : qx_code 306 23 = some (23, .iconst 0, 24, 0, 0, 0) := by decide +kernel
theorem s306_23 {L : Nat} {xs : Nat → Int32} {d x : Nat} {M : qxM} {st : List Value} {ls : qxL} : Rs L xs (d) 306 23 ls st M x = Rs L xs (d) 306 24 ls (.int (nI 0) :: st) M x := Rs_next c306_23 rfl
theorem c306_24 : qx_code 306 24 = some (24, .iaload, 25, 0, 0, 0) := by decide +kernel
theorem s306_24 {L : Nat} {xs : Nat → Int32} {d x : Nat} {M : qxM} {st : List Value} {ls : qxL} {t : Nat} {j : Int32} (hk : qx_kd t = 0) (hj : qx_ib j (qx_ln t) = true) : Rs L xs (d) 306 24 ls (.int j :: .ref t :: st) M x = Rs L xs (d) 306 25 ls (.int (M.1 t j.toNatClampNeg) :: st) M x := by
  have h1 := qx_kd_row (k := 0) (by decide) hk
  exact Rs_unless (qx_ib_not hj) c306_24 (by unfold qx_act; dsimp only; rw [h1]; rfl)
theorem c306_25 : qx_code 306 25 = some (25, .if_icmp .ge 63, 28, 88, 0, 0) := by decide +kernel
theorem s306_25 {L : Nat} {xs : Nat → Int32} {d x : Nat} {M : qxM} {st : List Value} {ls : qxL} {z y : Int32} : Rs L xs (d) 306 25 ls (.int y :: .int z :: st) M x = if y ≤ z then Rs L xs (d) 306 88 ls st M x else Rs L xs (d) 306 28 ls st M x := Rs_ite c306_25 rfl
theorem c306_28 : qx_code 306 28 = some (28, .iload_n 3, 29, 0, 0, 0) := by decide +kernel
theorem s306_28 {L : Nat} {xs : Nat → Int32} {d x : Nat} {M : qxM} {st : List Value} {a0 a1 a2 a4 : Option Value} {z : Int32} : Rs L xs (d) 306 28 [a0, a1, a2, some (.int z), a4] st M x = Rs L xs (d) 306 29 [a0, a1, a2, some (.int z), a4] (.int z :: st) M x := Rs_next c306_28 rfl
theorem c306_29 : qx_code 306 29 = some (29, .iconst 1, 30, 0, 0, 0) := by decide +kernel
theorem s306_29 {L : Nat} {xs : Nat → Int32} {d x : Nat} {M : qxM} {st : List Value} {ls : qxL} : Rs L xs (d) 306 29 ls st M x = Rs L xs (d) 306 30 ls (.int (nI 1) :: st) M x := Rs_next c306_29 rfl
theorem c306_30 : qx_code 306 30 = some (30, .iadd, 31, 0, 0, 0) := by decide +kernel
theorem s306_30 {L : Nat} {xs : Nat → Int32} {d x : Nat} {M : qxM} {st : List Value} {ls : qxL} {z y : Int32} : Rs L xs (d) 306 30 ls (.int y :: .int z :: st) M x = Rs L xs (d) 306 31 ls (.int (z + y) :: st) M x := Rs_next c306_30 rfl
theorem c306_31 : qx_code 306 31 = some (31, .istore 4, 33, 0, 0, 0) := by decide +kernel
theorem s306_31i {L : Nat} {xs : Nat → Int32} {d x : Nat} {M : qxM} {st : List Value} {a0 a1 a2 a4 : Option Value} {z : Int32} {y : Int32} : Rs L xs (d) 306 31 [a0, a1, a2, some (.int y), a4] (.int z :: st) M x = Rs L xs (d) 306 33 [a0, a1, a2, some (.int y), some (.int z)] st M x := Rs_next c306_31 rfl
theorem s306_31r {L : Nat} {xs : Nat → Int32} {d x : Nat} {M : qxM} {st : List Value} {a0 a1 a2 a4 : Option Value} {z : Int32} {y : Nat} : Rs L xs (d) 306 31 [a0, a1, a2, some (.ref y), a4] (.int z :: st) M x = Rs L xs (d) 306 33 [a0, a1, a2, some (.ref y), some (.int z)] st M x := Rs_next c306_31 rfl
theorem s306_31n {L : Nat} {xs : Nat → Int32} {d x : Nat} {M : qxM} {st : List Value} {a0 a1 a2 a4 : Option Value} {z : Int32} : Rs L xs (d) 306 31 [a0, a1, a2, none, a4] (.int z :: st) M x = Rs L xs (d) 306 33 [a0, a1, a2, none, some (.int z)] st M x := Rs_next c306_31 rfl
theorem c306_33 : qx_code 306 33 = some (33, .iload 4, 35, 0, 0, 0) := by decide +kernel
theorem s306_33 {L : Nat} {xs : Nat → Int32} {d x : Nat} {M : qxM} {st : List Value} {a0 a1 a2 a3 : Option Value} {z : Int32} : Rs L xs (d) 306 33 [a0, a1, a2, a3, some (.int z)] st M x = Rs L xs (d) 306 35 [a0, a1, a2, a3, some (.int z)] (.int z :: st) M x := Rs_next c306_33 rfl
theorem c306_35 : qx_code 306 35 = some (35, .aload_n 0, 36, 0, 0, 0) := by decide +kernel
theorem s306_35 {L : Nat} {xs : Nat → Int32} {d x : Nat} {M : qxM} {st : List Value} {a1 a2 a3 a4 : Option Value} {z : Nat} : Rs L xs (d) 306 35 [some (.ref z), a1, a2, a3, a4] st M x = Rs L xs (d) 306 36 [some (.ref z), a1, a2, a3, a4] (.ref z :: st) M x := Rs_next c306_35 rfl
theorem c306_36 : qx_code 306 36 = some (36, .getfield 9, 39, 8, 1, 1546) := by decide +kernel
theorem s306_36 {L : Nat} {xs : Nat → Int32} {d x : Nat} {M : qxM} {st : List Value} {ls : qxL} {t : Nat} (hk : qx_kd t = 18) : Rs L xs (d) 306 36 ls (.ref t :: st) M x = Rs L xs (d) 306 39 ls (.ref (t + 1) :: st) M x := Rs_when (qx_kd_obj (k := 8) (by decide) hk) c306_36 rfl
theorem c306_39 : qx_code 306 39 = some (39, .iconst 0, 40, 0, 0, 0) := by decide +kernel
theorem s306_39 {L : Nat} {xs : Nat → Int32} {d x : Nat} {M : qxM} {st : List Value} {ls : qxL} : Rs L xs (d) 306 39 ls st M x = Rs L xs (d) 306 40 ls (.int (nI 0) :: st) M x := Rs_next c306_39 rfl
theorem c306_40 : qx_code 306 40 = some (40, .iaload, 41, 0, 0, 0) := by decide +kernel
theorem s306_40 {L : Nat} {xs : Nat → Int32} {d x : Nat} {M : qxM} {st : List Value} {ls : qxL} {t : Nat} {j : Int32} (hk : qx_kd t = 0) (hj : qx_ib j (qx_ln t) = true) : Rs L xs (d) 306 40 ls (.int j :: .ref t :: st) M x = Rs L xs (d) 306 41 ls (.int (M.1 t j.toNatClampNeg) :: st) M x := by
  have h1 := qx_kd_row (k := 0) (by decide) hk
  exact Rs_unless (qx_ib_not hj) c306_40 (by unfold qx_act; dsimp only; rw [h1]; rfl)
theorem c306_41 : qx_code 306 41 = some (41, .if_icmp .ge 41, 44, 82, 0, 0) := by decide +kernel
theorem s306_41 {L : Nat} {xs : Nat → Int32} {d x : Nat} {M : qxM} {st : List Value} {ls : qxL} {z y : Int32} : Rs L xs (d) 306 41 ls (.int y :: .int z :: st) M x = if y ≤ z then Rs L xs (d) 306 82 ls st M x else Rs L xs (d) 306 44 ls st M x := Rs_ite c306_41 rfl
theorem c306_44 : qx_code 306 44 = some (44, .iload_n 2, 45, 0, 0, 0) := by decide +kernel
theorem s306_44 {L : Nat} {xs : Nat → Int32} {d x : Nat} {M : qxM} {st : List Value} {a0 a1 a3 a4 : Option Value} {z : Int32} : Rs L xs (d) 306 44 [a0, a1, some (.int z), a3, a4] st M x = Rs L xs (d) 306 45 [a0, a1, some (.int z), a3, a4] (.int z :: st) M x := Rs_next c306_44 rfl
theorem c306_45 : qx_code 306 45 = some (45, .aload_n 0, 46, 0, 0, 0) := by decide +kernel
theorem s306_45 {L : Nat} {xs : Nat → Int32} {d x : Nat} {M : qxM} {st : List Value} {a1 a2 a3 a4 : Option Value} {z : Nat} : Rs L xs (d) 306 45 [some (.ref z), a1, a2, a3, a4] st M x = Rs L xs (d) 306 46 [some (.ref z), a1, a2, a3, a4] (.ref z :: st) M x := Rs_next c306_45 rfl
theorem c306_46 : qx_code 306 46 = some (46, .iload_n 3, 47, 0, 0, 0) := by decide +kernel
theorem s306_46 {L : Nat} {xs : Nat → Int32} {d x : Nat} {M : qxM} {st : List Value} {a0 a1 a2 a4 : Option Value} {z : Int32} : Rs L xs (d) 306 46 [a0, a1, a2, some (.int z), a4] st M x = Rs L xs (d) 306 47 [a0, a1, a2, some (.int z), a4] (.int z :: st) M x := Rs_next c306_46 rfl
theorem c306_47 : qx_code 306 47 = some (47, .iload 4, 49, 0, 0, 0) := by decide +kernel
theorem s306_47 {L : Nat} {xs : Nat → Int32} {d x : Nat} {M : qxM} {st : List Value} {a0 a1 a2 a3 : Option Value} {z : Int32} : Rs L xs (d) 306 47 [a0, a1, a2, a3, some (.int z)] st M x = Rs L xs (d) 306 49 [a0, a1, a2, a3, some (.int z)] (.int z :: st) M x := Rs_next c306_47 rfl
theorem c306_49 : qx_code 306 49 = some (49, .invokevirtual 197, 52, 216, 3, 1745) := by decide +kernel
theorem s306_49 {L : Nat} {xs : Nat → Int32} {d x : Nat} {M : qxM} {st : List Value} {ls : qxL} {t : Nat} {z0 : Int32} {z1 : Int32} (hk : qx_kd t = 18) (hs : st.length ≤ 4) : Rs L xs (d + 1) 306 49 ls (.int z1 :: .int z0 :: .ref t :: st) M x = (Rs L xs d 216 0 [some (.ref t), some (.int z0), some (.int z1)] [] M 0).bind (qx_kn L xs (d + 1) 306 49 52 216 ls st x) := by
  have h1 : qx_act L xs (qx_rt 306) (49, .invokevirtual 197, 52, 216, 3, 1745) ls (.int z1 :: .int z0 :: .ref t :: st) M = if 3 ≤ (.int z1 :: .int z0 :: .ref t :: st).length ∧ st.length ≤ 4 then some (.inr (.inr (.inr (216, [.ref t, .int z0, .int z1], st)))) else none := rfl
  rw [if_pos ⟨by simp [List.length_cons]; try omega, hs⟩] at h1
  have h2 := qx_kd_obj (k := 8) (by decide) hk
  exact Rs_call c306_49 h1 (by rw [show qx_args 216 [.ref t, .int z0, .int z1] = decide (qx_sh t = some (.inl 8)) from rfl]; exact decide_eq_true h2)
theorem c306_52 : qx_code 306 52 = some (52, .ifCond .ne 18, 55, 70, 0, 0) := by decide +kernel
theorem s306_52 {L : Nat} {xs : Nat → Int32} {d x : Nat} {M : qxM} {st : List Value} {ls : qxL} {z : Int32} : Rs L xs (d) 306 52 ls (.int z :: st) M x = if z = 0 then Rs L xs (d) 306 55 ls st M x else Rs L xs (d) 306 70 ls st M x := Rs_ite c306_52 rfl
theorem c306_55 : qx_code 306 55 = some (55, .aload_n 0, 56, 0, 0, 0) := by decide +kernel
theorem s306_55 {L : Nat} {xs : Nat → Int32} {d x : Nat} {M : qxM} {st : List Value} {a1 a2 a3 a4 : Option Value} {z : Nat} : Rs L xs (d) 306 55 [some (.ref z), a1, a2, a3, a4] st M x = Rs L xs (d) 306 56 [some (.ref z), a1, a2, a3, a4] (.ref z :: st) M x := Rs_next c306_55 rfl
theorem c306_56 : qx_code 306 56 = some (56, .iload_n 3, 57, 0, 0, 0) := by decide +kernel
theorem s306_56 {L : Nat} {xs : Nat → Int32} {d x : Nat} {M : qxM} {st : List Value} {a0 a1 a2 a4 : Option Value} {z : Int32} : Rs L xs (d) 306 56 [a0, a1, a2, some (.int z), a4] st M x = Rs L xs (d) 306 57 [a0, a1, a2, some (.int z), a4] (.int z :: st) M x := Rs_next c306_56 rfl
theorem c306_57 : qx_code 306 57 = some (57, .iload 4, 59, 0, 0, 0) := by decide +kernel
theorem s306_57 {L : Nat} {xs : Nat → Int32} {d x : Nat} {M : qxM} {st : List Value} {a0 a1 a2 a3 : Option Value} {z : Int32} : Rs L xs (d) 306 57 [a0, a1, a2, a3, some (.int z)] st M x = Rs L xs (d) 306 59 [a0, a1, a2, a3, some (.int z)] (.int z :: st) M x := Rs_next c306_57 rfl
theorem c306_59 : qx_code 306 59 = some (59, .invokevirtual 351, 62, 295, 3, 2026) := by decide +kernel
theorem s306_59 {L : Nat} {xs : Nat → Int32} {d x : Nat} {M : qxM} {st : List Value} {ls : qxL} {t : Nat} {z0 : Int32} {z1 : Int32} (hk : qx_kd t = 18) (hs : st.length ≤ 4) : Rs L xs (d + 1) 306 59 ls (.int z1 :: .int z0 :: .ref t :: st) M x = (Rs L xs d 295 0 [some (.ref t), some (.int z0), some (.int z1), none] [] M 0).bind (qx_kn L xs (d + 1) 306 59 62 295 ls st x) := by
  have h1 : qx_act L xs (qx_rt 306) (59, .invokevirtual 351, 62, 295, 3, 2026) ls (.int z1 :: .int z0 :: .ref t :: st) M = if 3 ≤ (.int z1 :: .int z0 :: .ref t :: st).length ∧ st.length ≤ 4 then some (.inr (.inr (.inr (295, [.ref t, .int z0, .int z1], st)))) else none := rfl
  rw [if_pos ⟨by simp [List.length_cons]; try omega, hs⟩] at h1
  have h2 := qx_kd_obj (k := 8) (by decide) hk
  exact Rs_call c306_59 h1 (by rw [show qx_args 295 [.ref t, .int z0, .int z1] = decide (qx_sh t = some (.inl 8)) from rfl]; exact decide_eq_true h2)
theorem c306_62 : qx_code 306 62 = some (62, .iload_n 1, 63, 0, 0, 0) := by decide +kernel
theorem s306_62 {L : Nat} {xs : Nat → Int32} {d x : Nat} {M : qxM} {st : List Value} {a0 a2 a3 a4 : Option Value} {z : Int32} : Rs L xs (d) 306 62 [a0, some (.int z), a2, a3, a4] st M x = Rs L xs (d) 306 63 [a0, some (.int z), a2, a3, a4] (.int z :: st) M x := Rs_next c306_62 rfl
theorem c306_63 : qx_code 306 63 = some (63, .if_icmp .le 7, 66, 70, 0, 0) := by decide +kernel
theorem s306_63 {L : Nat} {xs : Nat → Int32} {d x : Nat} {M : qxM} {st : List Value} {ls : qxL} {z y : Int32} : Rs L xs (d) 306 63 ls (.int y :: .int z :: st) M x = if z ≤ y then Rs L xs (d) 306 70 ls st M x else Rs L xs (d) 306 66 ls st M x := Rs_ite c306_63 rfl
theorem c306_66 : qx_code 306 66 = some (66, .iconst 1, 67, 0, 0, 0) := by decide +kernel
theorem s306_66 {L : Nat} {xs : Nat → Int32} {d x : Nat} {M : qxM} {st : List Value} {ls : qxL} : Rs L xs (d) 306 66 ls st M x = Rs L xs (d) 306 67 ls (.int (nI 1) :: st) M x := Rs_next c306_66 rfl
theorem c306_67 : qx_code 306 67 = some (67, .goto 4, 70, 71, 0, 0) := by decide +kernel
theorem s306_67 {L : Nat} {xs : Nat → Int32} {d x : Nat} {M : qxM} {st : List Value} {ls : qxL} : Rs L xs (d) 306 67 ls st M x = Rs L xs (d) 306 71 ls st M x := Rs_next c306_67 rfl
theorem c306_70 : qx_code 306 70 = some (70, .iconst 0, 71, 0, 0, 0) := by decide +kernel
theorem s306_70 {L : Nat} {xs : Nat → Int32} {d x : Nat} {M : qxM} {st : List Value} {ls : qxL} : Rs L xs (d) 306 70 ls st M x = Rs L xs (d) 306 71 ls (.int (nI 0) :: st) M x := Rs_next c306_70 rfl
theorem c306_71 : qx_code 306 71 = some (71, .invokestatic 203, 74, 179, 1, 1785) := by decide +kernel
theorem s306_71 {L : Nat} {xs : Nat → Int32} {d x : Nat} {M : qxM} {st : List Value} {ls : qxL} {z0 : Int32} (hs : st.length ≤ 4) : Rs L xs (d + 1) 306 71 ls (.int z0 :: st) M x = (Rs L xs d 179 0 [some (.int z0)] [] M 0).bind (qx_kn L xs (d + 1) 306 71 74 179 ls st x) := by
  have h1 : qx_act L xs (qx_rt 306) (71, .invokestatic 203, 74, 179, 1, 1785) ls (.int z0 :: st) M = if 1 ≤ (.int z0 :: st).length ∧ st.length ≤ 4 then some (.inr (.inr (.inr (179, [.int z0], st)))) else none := rfl
  rw [if_pos ⟨by simp [List.length_cons]; try omega, hs⟩] at h1
  exact Rs_call c306_71 h1 rfl
theorem c306_74 : qx_code 306 74 = some (74, .iadd, 75, 0, 0, 0) := by decide +kernel
theorem s306_74 {L : Nat} {xs : Nat → Int32} {d x : Nat} {M : qxM} {st : List Value} {ls : qxL} {z y : Int32} : Rs L xs (d) 306 74 ls (.int y :: .int z :: st) M x = Rs L xs (d) 306 75 ls (.int (z + y) :: st) M x := Rs_next c306_74 rfl
theorem c306_75 : qx_code 306 75 = some (75, .istore_n 2, 76, 0, 0, 0) := by decide +kernel
theorem s306_75i {L : Nat} {xs : Nat → Int32} {d x : Nat} {M : qxM} {st : List Value} {a0 a2 a3 a4 : Option Value} {z : Int32} {y : Int32} : Rs L xs (d) 306 75 [a0, some (.int y), a2, a3, a4] (.int z :: st) M x = Rs L xs (d) 306 76 [a0, some (.int y), some (.int z), a3, a4] st M x := Rs_next c306_75 rfl
theorem s306_75r {L : Nat} {xs : Nat → Int32} {d x : Nat} {M : qxM} {st : List Value} {a0 a2 a3 a4 : Option Value} {z : Int32} {y : Nat} : Rs L xs (d) 306 75 [a0, some (.ref y), a2, a3, a4] (.int z :: st) M x = Rs L xs (d) 306 76 [a0, some (.ref y), some (.int z), a3, a4] st M x := Rs_next c306_75 rfl
theorem s306_75n {L : Nat} {xs : Nat → Int32} {d x : Nat} {M : qxM} {st : List Value} {a0 a2 a3 a4 : Option Value} {z : Int32} : Rs L xs (d) 306 75 [a0, none, a2, a3, a4] (.int z :: st) M x = Rs L xs (d) 306 76 [a0, none, some (.int z), a3, a4] st M x := Rs_next c306_75 rfl
theorem c306_76 : qx_code 306 76 = some (76, .iinc 4 1, 79, 0, 0, 0) := by decide +kernel
theorem s306_76i {L : Nat} {xs : Nat → Int32} {d x : Nat} {M : qxM} {st : List Value} {a0 a1 a2 : Option Value} {z : Int32} {y : Int32} : Rs L xs (d) 306 76 [a0, a1, a2, some (.int y), some (.int z)] st M x = Rs L xs (d) 306 79 [a0, a1, a2, some (.int y), some (.int (z + (nI 1)))] st M x := Rs_next c306_76 rfl
theorem s306_76r {L : Nat} {xs : Nat → Int32} {d x : Nat} {M : qxM} {st : List Value} {a0 a1 a2 : Option Value} {z : Int32} {y : Nat} : Rs L xs (d) 306 76 [a0, a1, a2, some (.ref y), some (.int z)] st M x = Rs L xs (d) 306 79 [a0, a1, a2, some (.ref y), some (.int (z + (nI 1)))] st M x := Rs_next c306_76 rfl
theorem s306_76n {L : Nat} {xs : Nat → Int32} {d x : Nat} {M : qxM} {st : List Value} {a0 a1 a2 : Option Value} {z : Int32} : Rs L xs (d) 306 76 [a0, a1, a2, none, some (.int z)] st M x = Rs L xs (d) 306 79 [a0, a1, a2, none, some (.int (z + (nI 1)))] st M x := Rs_next c306_76 rfl
theorem c306_79 : qx_code 306 79 = some (79, .goto (-46), 82, 33, 0, 0) := by decide +kernel
theorem s306_79 {L : Nat} {xs : Nat → Int32} {d x : Nat} {M : qxM} {st : List Value} {ls : qxL} : Rs L xs (d) 306 79 ls st M x = Rs L xs (d) 306 33 ls st M x := Rs_next c306_79 rfl
theorem c306_82 : qx_code 306 82 = some (82, .iinc 3 1, 85, 0, 0, 0) := by decide +kernel
theorem s306_82i {L : Nat} {xs : Nat → Int32} {d x : Nat} {M : qxM} {st : List Value} {a0 a1 a4 : Option Value} {z : Int32} {y : Int32} : Rs L xs (d) 306 82 [a0, a1, some (.int y), some (.int z), a4] st M x = Rs L xs (d) 306 85 [a0, a1, some (.int y), some (.int (z + (nI 1))), a4] st M x := Rs_next c306_82 rfl
theorem s306_82r {L : Nat} {xs : Nat → Int32} {d x : Nat} {M : qxM} {st : List Value} {a0 a1 a4 : Option Value} {z : Int32} {y : Nat} : Rs L xs (d) 306 82 [a0, a1, some (.ref y), some (.int z), a4] st M x = Rs L xs (d) 306 85 [a0, a1, some (.ref y), some (.int (z + (nI 1))), a4] st M x := Rs_next c306_82 rfl
theorem s306_82n {L : Nat} {xs : Nat → Int32} {d x : Nat} {M : qxM} {st : List Value} {a0 a1 a4 : Option Value} {z : Int32} : Rs L xs (d) 306 82 [a0, a1, none, some (.int z), a4] st M x = Rs L xs (d) 306 85 [a0, a1, none, some (.int (z + (nI 1))), a4] st M x := Rs_next c306_82 rfl
theorem c306_85 : qx_code 306 85 = some (85, .goto (-67), 88, 18, 0, 0) := by decide +kernel
theorem s306_85 {L : Nat} {xs : Nat → Int32} {d x : Nat} {M : qxM} {st : List Value} {ls : qxL} : Rs L xs (d) 306 85 ls st M x = Rs L xs (d) 306 18 ls st M x := Rs_next c306_85 rfl
theorem c306_88 : qx_code 306 88 = some (88, .iload_n 2, 89, 0, 0, 0) := by decide +kernel
theorem s306_88 {L : Nat} {xs : Nat → Int32} {d x : Nat} {M : qxM} {st : List Value} {a0 a1 a3 a4 : Option Value} {z : Int32} : Rs L xs (d) 306 88 [a0, a1, some (.int z), a3, a4] st M x = Rs L xs (d) 306 89 [a0, a1, some (.int z), a3, a4] (.int z :: st) M x := Rs_next c306_88 rfl
theorem c306_89 : qx_code 306 89 = some (89, .ireturn, 90, 0, 0, 0) := by decide +kernel
theorem s306_89 {L : Nat} {xs : Nat → Int32} {d x : Nat} {M : qxM} {ls : qxL} {z : Int32} : Rs L xs (d) 306 89 ls [.int z] M x = some (.inl (some (.int z)), M, x) := Rs_ret c306_89 rfl
theorem c307_0 : qx_code 307 0 = some (0, .aload_n 0, 1, 0, 0, 0) := by decide +kernel
theorem s307_0 {L : Nat} {xs : Nat → Int32} {d x : Nat} {M : qxM} {st : List Value} {a1 a2 : Option Value} {z : Nat} : Rs L xs (d) 307 0 [some (.ref z), a1, a2] st M x = Rs L xs (d) 307 1 [some (.ref z), a1, a2] (.ref z :: st) M x := Rs_next c307_0 rfl
theorem c307_1 : qx_code 307 1 = some (1, .iload_n 1, 2, 0, 0, 0) := by decide +kernel
theorem s307_1 {L : Nat} {xs : Nat → Int32} {d x : Nat} {M : qxM} {st : List Value} {a0 a2 : Option Value} {z : Int32} : Rs L xs (d) 307 1 [a0, some (.int z), a2] st M x = Rs L xs (d) 307 2 [a0, some (.int z), a2] (.int z :: st) M x := Rs_next c307_1 rfl
theorem c307_2 : qx_code 307 2 = some (2, .invokevirtual 232, 5, 226, 2, 1819) := by decide +kernel
theorem s307_2 {L : Nat} {xs : Nat → Int32} {d x : Nat} {M : qxM} {st : List Value} {ls : qxL} {t : Nat} {z0 : Int32} (hk : qx_kd t = 18) (hs : st.length ≤ 4) : Rs L xs (d + 1) 307 2 ls (.int z0 :: .ref t :: st) M x = (Rs L xs d 226 0 [some (.ref t), some (.int z0)] [] M 0).bind (qx_kn L xs (d + 1) 307 2 5 226 ls st x) := by
  have h1 : qx_act L xs (qx_rt 307) (2, .invokevirtual 232, 5, 226, 2, 1819) ls (.int z0 :: .ref t :: st) M = if 2 ≤ (.int z0 :: .ref t :: st).length ∧ st.length ≤ 4 then some (.inr (.inr (.inr (226, [.ref t, .int z0], st)))) else none := rfl
  rw [if_pos ⟨by simp [List.length_cons]; try omega, hs⟩] at h1
  have h2 := qx_kd_obj (k := 8) (by decide) hk
  exact Rs_call c307_2 h1 (by rw [show qx_args 226 [.ref t, .int z0] = decide (qx_sh t = some (.inl 8)) from rfl]; exact decide_eq_true h2)
theorem c307_5 : qx_code 307 5 = some (5, .ifCond .ne 5, 8, 10, 0, 0) := by decide +kernel
theorem s307_5 {L : Nat} {xs : Nat → Int32} {d x : Nat} {M : qxM} {st : List Value} {ls : qxL} {z : Int32} : Rs L xs (d) 307 5 ls (.int z :: st) M x = if z = 0 then Rs L xs (d) 307 8 ls st M x else Rs L xs (d) 307 10 ls st M x := Rs_ite c307_5 rfl
theorem c307_8 : qx_code 307 8 = some (8, .iconst 0, 9, 0, 0, 0) := by decide +kernel
theorem s307_8 {L : Nat} {xs : Nat → Int32} {d x : Nat} {M : qxM} {st : List Value} {ls : qxL} : Rs L xs (d) 307 8 ls st M x = Rs L xs (d) 307 9 ls (.int (nI 0) :: st) M x := Rs_next c307_8 rfl
theorem c307_9 : qx_code 307 9 = some (9, .ireturn, 10, 0, 0, 0) := by decide +kernel
theorem s307_9 {L : Nat} {xs : Nat → Int32} {d x : Nat} {M : qxM} {ls : qxL} {z : Int32} : Rs L xs (d) 307 9 ls [.int z] M x = some (.inl (some (.int z)), M, x) := Rs_ret c307_9 rfl
theorem c307_10 : qx_code 307 10 = some (10, .aload_n 0, 11, 0, 0, 0) := by decide +kernel
theorem s307_10 {L : Nat} {xs : Nat → Int32} {d x : Nat} {M : qxM} {st : List Value} {a1 a2 : Option Value} {z : Nat} : Rs L xs (d) 307 10 [some (.ref z), a1, a2] st M x = Rs L xs (d) 307 11 [some (.ref z), a1, a2] (.ref z :: st) M x := Rs_next c307_10 rfl
theorem c307_11 : qx_code 307 11 = some (11, .iload_n 1, 12, 0, 0, 0) := by decide +kernel
theorem s307_11 {L : Nat} {xs : Nat → Int32} {d x : Nat} {M : qxM} {st : List Value} {a0 a2 : Option Value} {z : Int32} : Rs L xs (d) 307 11 [a0, some (.int z), a2] st M x = Rs L xs (d) 307 12 [a0, some (.int z), a2] (.int z :: st) M x := Rs_next c307_11 rfl
theorem c307_12 : qx_code 307 12 = some (12, .invokevirtual 132, 15, 213, 2, 1737) := by decide +kernel
theorem s307_12 {L : Nat} {xs : Nat → Int32} {d x : Nat} {M : qxM} {st : List Value} {ls : qxL} {t : Nat} {z0 : Int32} (hk : qx_kd t = 18) (hs : st.length ≤ 4) : Rs L xs (d + 1) 307 12 ls (.int z0 :: .ref t :: st) M x = (Rs L xs d 213 0 [some (.ref t), some (.int z0)] [] M 0).bind (qx_kn L xs (d + 1) 307 12 15 213 ls st x) := by
  have h1 : qx_act L xs (qx_rt 307) (12, .invokevirtual 132, 15, 213, 2, 1737) ls (.int z0 :: .ref t :: st) M = if 2 ≤ (.int z0 :: .ref t :: st).length ∧ st.length ≤ 4 then some (.inr (.inr (.inr (213, [.ref t, .int z0], st)))) else none := rfl
  rw [if_pos ⟨by simp [List.length_cons]; try omega, hs⟩] at h1
  have h2 := qx_kd_obj (k := 8) (by decide) hk
  exact Rs_call c307_12 h1 (by rw [show qx_args 213 [.ref t, .int z0] = decide (qx_sh t = some (.inl 8)) from rfl]; exact decide_eq_true h2)
theorem c307_15 : qx_code 307 15 = some (15, .iconst (-1), 16, 0, 0, 0) := by decide +kernel
theorem s307_15 {L : Nat} {xs : Nat → Int32} {d x : Nat} {M : qxM} {st : List Value} {ls : qxL} : Rs L xs (d) 307 15 ls st M x = Rs L xs (d) 307 16 ls (.int (-1) :: st) M x := Rs_next c307_15 rfl
theorem c307_16 : qx_code 307 16 = some (16, .if_icmp .eq 5, 19, 21, 0, 0) := by decide +kernel
theorem s307_16 {L : Nat} {xs : Nat → Int32} {d x : Nat} {M : qxM} {st : List Value} {ls : qxL} {z y : Int32} : Rs L xs (d) 307 16 ls (.int y :: .int z :: st) M x = if z = y then Rs L xs (d) 307 21 ls st M x else Rs L xs (d) 307 19 ls st M x := Rs_ite c307_16 rfl
theorem c307_19 : qx_code 307 19 = some (19, .iconst (-1), 20, 0, 0, 0) := by decide +kernel
theorem s307_19 {L : Nat} {xs : Nat → Int32} {d x : Nat} {M : qxM} {st : List Value} {ls : qxL} : Rs L xs (d) 307 19 ls st M x = Rs L xs (d) 307 20 ls (.int (-1) :: st) M x := Rs_next c307_19 rfl
theorem c307_20 : qx_code 307 20 = some (20, .ireturn, 21, 0, 0, 0) := by decide +kernel
theorem s307_20 {L : Nat} {xs : Nat → Int32} {d x : Nat} {M : qxM} {ls : qxL} {z : Int32} : Rs L xs (d) 307 20 ls [.int z] M x = some (.inl (some (.int z)), M, x) := Rs_ret c307_20 rfl
theorem c307_21 : qx_code 307 21 = some (21, .aload_n 0, 22, 0, 0, 0) := by decide +kernel
theorem s307_21 {L : Nat} {xs : Nat → Int32} {d x : Nat} {M : qxM} {st : List Value} {a1 a2 : Option Value} {z : Nat} : Rs L xs (d) 307 21 [some (.ref z), a1, a2] st M x = Rs L xs (d) 307 22 [some (.ref z), a1, a2] (.ref z :: st) M x := Rs_next c307_21 rfl
theorem c307_22 : qx_code 307 22 = some (22, .invokevirtual 178, 25, 183, 1, 1648) := by decide +kernel
theorem s307_22 {L : Nat} {xs : Nat → Int32} {d x : Nat} {M : qxM} {st : List Value} {ls : qxL} {t : Nat} (hk : qx_kd t = 18) (hs : st.length ≤ 4) : Rs L xs (d + 1) 307 22 ls (.ref t :: st) M x = (Rs L xs d 183 0 [some (.ref t)] [] M 0).bind (qx_kn L xs (d + 1) 307 22 25 183 ls st x) := by
  have h1 : qx_act L xs (qx_rt 307) (22, .invokevirtual 178, 25, 183, 1, 1648) ls (.ref t :: st) M = if 1 ≤ (.ref t :: st).length ∧ st.length ≤ 4 then some (.inr (.inr (.inr (183, [.ref t], st)))) else none := rfl
  rw [if_pos ⟨by simp [List.length_cons]; try omega, hs⟩] at h1
  have h2 := qx_kd_obj (k := 8) (by decide) hk
  exact Rs_call c307_22 h1 (by rw [show qx_args 183 [.ref t] = decide (qx_sh t = some (.inl 8)) from rfl]; exact decide_eq_true h2)
theorem c307_25 : qx_code 307 25 = some (25, .aload_n 0, 26, 0, 0, 0) := by decide +kernel
theorem s307_25 {L : Nat} {xs : Nat → Int32} {d x : Nat} {M : qxM} {st : List Value} {a1 a2 : Option Value} {z : Nat} : Rs L xs (d) 307 25 [some (.ref z), a1, a2] st M x = Rs L xs (d) 307 26 [some (.ref z), a1, a2] (.ref z :: st) M x := Rs_next c307_25 rfl
theorem c307_26 : qx_code 307 26 = some (26, .iload_n 1, 27, 0, 0, 0) := by decide +kernel
theorem s307_26 {L : Nat} {xs : Nat → Int32} {d x : Nat} {M : qxM} {st : List Value} {a0 a2 : Option Value} {z : Int32} : Rs L xs (d) 307 26 [a0, some (.int z), a2] st M x = Rs L xs (d) 307 27 [a0, some (.int z), a2] (.int z :: st) M x := Rs_next c307_26 rfl
theorem c307_27 : qx_code 307 27 = some (27, .invokevirtual 363, 30, 238, 2, 2073) := by decide +kernel
theorem s307_27 {L : Nat} {xs : Nat → Int32} {d x : Nat} {M : qxM} {st : List Value} {ls : qxL} {t : Nat} {z0 : Int32} (hk : qx_kd t = 18) (hs : st.length ≤ 4) : Rs L xs (d + 1) 307 27 ls (.int z0 :: .ref t :: st) M x = (Rs L xs d 238 0 [some (.ref t), some (.int z0), none] [] M 0).bind (qx_kn L xs (d + 1) 307 27 30 238 ls st x) := by
  have h1 : qx_act L xs (qx_rt 307) (27, .invokevirtual 363, 30, 238, 2, 2073) ls (.int z0 :: .ref t :: st) M = if 2 ≤ (.int z0 :: .ref t :: st).length ∧ st.length ≤ 4 then some (.inr (.inr (.inr (238, [.ref t, .int z0], st)))) else none := rfl
  rw [if_pos ⟨by simp [List.length_cons]; try omega, hs⟩] at h1
  have h2 := qx_kd_obj (k := 8) (by decide) hk
  exact Rs_call c307_27 h1 (by rw [show qx_args 238 [.ref t, .int z0] = decide (qx_sh t = some (.inl 8)) from rfl]; exact decide_eq_true h2)
theorem c307_30 : qx_code 307 30 = some (30, .aload_n 0, 31, 0, 0, 0) := by decide +kernel
theorem s307_30 {L : Nat} {xs : Nat → Int32} {d x : Nat} {M : qxM} {st : List Value} {a1 a2 : Option Value} {z : Nat} : Rs L xs (d) 307 30 [some (.ref z), a1, a2] st M x = Rs L xs (d) 307 31 [some (.ref z), a1, a2] (.ref z :: st) M x := Rs_next c307_30 rfl
theorem c307_31 : qx_code 307 31 = some (31, .invokevirtual 366, 34, 251, 1, 2089) := by decide +kernel
theorem s307_31 {L : Nat} {xs : Nat → Int32} {d x : Nat} {M : qxM} {st : List Value} {ls : qxL} {t : Nat} (hk : qx_kd t = 18) (hs : st.length ≤ 4) : Rs L xs (d + 1) 307 31 ls (.ref t :: st) M x = (Rs L xs d 251 0 [some (.ref t), none, none] [] M 0).bind (qx_kn L xs (d + 1) 307 31 34 251 ls st x) := by
  have h1 : qx_act L xs (qx_rt 307) (31, .invokevirtual 366, 34, 251, 1, 2089) ls (.ref t :: st) M = if 1 ≤ (.ref t :: st).length ∧ st.length ≤ 4 then some (.inr (.inr (.inr (251, [.ref t], st)))) else none := rfl
  rw [if_pos ⟨by simp [List.length_cons]; try omega, hs⟩] at h1
  have h2 := qx_kd_obj (k := 8) (by decide) hk
  exact Rs_call c307_31 h1 (by rw [show qx_args 251 [.ref t] = decide (qx_sh t = some (.inl 8)) from rfl]; exact decide_eq_true h2)
theorem c307_34 : qx_code 307 34 = some (34, .istore_n 2, 35, 0, 0, 0) := by decide +kernel
theorem s307_34i {L : Nat} {xs : Nat → Int32} {d x : Nat} {M : qxM} {st : List Value} {a0 a2 : Option Value} {z : Int32} {y : Int32} : Rs L xs (d) 307 34 [a0, some (.int y), a2] (.int z :: st) M x = Rs L xs (d) 307 35 [a0, some (.int y), some (.int z)] st M x := Rs_next c307_34 rfl
theorem s307_34r {L : Nat} {xs : Nat → Int32} {d x : Nat} {M : qxM} {st : List Value} {a0 a2 : Option Value} {z : Int32} {y : Nat} : Rs L xs (d) 307 34 [a0, some (.ref y), a2] (.int z :: st) M x = Rs L xs (d) 307 35 [a0, some (.ref y), some (.int z)] st M x := Rs_next c307_34 rfl
theorem s307_34n {L : Nat} {xs : Nat → Int32} {d x : Nat} {M : qxM} {st : List Value} {a0 a2 : Option Value} {z : Int32} : Rs L xs (d) 307 34 [a0, none, a2] (.int z :: st) M x = Rs L xs (d) 307 35 [a0, none, some (.int z)] st M x := Rs_next c307_34 rfl
theorem c307_35 : qx_code 307 35 = some (35, .aload_n 0, 36, 0, 0, 0) := by decide +kernel
theorem s307_35 {L : Nat} {xs : Nat → Int32} {d x : Nat} {M : qxM} {st : List Value} {a1 a2 : Option Value} {z : Nat} : Rs L xs (d) 307 35 [some (.ref z), a1, a2] st M x = Rs L xs (d) 307 36 [some (.ref z), a1, a2] (.ref z :: st) M x := Rs_next c307_35 rfl
theorem c307_36 : qx_code 307 36 = some (36, .aload_n 0, 37, 0, 0, 0) := by decide +kernel
theorem s307_36 {L : Nat} {xs : Nat → Int32} {d x : Nat} {M : qxM} {st : List Value} {a1 a2 : Option Value} {z : Nat} : Rs L xs (d) 307 36 [some (.ref z), a1, a2] st M x = Rs L xs (d) 307 37 [some (.ref z), a1, a2] (.ref z :: st) M x := Rs_next c307_36 rfl
theorem c307_37 : qx_code 307 37 = some (37, .getfield 9, 40, 8, 1, 1546) := by decide +kernel
theorem s307_37 {L : Nat} {xs : Nat → Int32} {d x : Nat} {M : qxM} {st : List Value} {ls : qxL} {t : Nat} (hk : qx_kd t = 18) : Rs L xs (d) 307 37 ls (.ref t :: st) M x = Rs L xs (d) 307 40 ls (.ref (t + 1) :: st) M x := Rs_when (qx_kd_obj (k := 8) (by decide) hk) c307_37 rfl
theorem c307_40 : qx_code 307 40 = some (40, .bipush 35, 42, 0, 0, 0) := by decide +kernel
theorem s307_40 {L : Nat} {xs : Nat → Int32} {d x : Nat} {M : qxM} {st : List Value} {ls : qxL} : Rs L xs (d) 307 40 ls st M x = Rs L xs (d) 307 42 ls (.int (nI 35) :: st) M x := Rs_next c307_40 rfl
theorem c307_42 : qx_code 307 42 = some (42, .iaload, 43, 0, 0, 0) := by decide +kernel
theorem s307_42 {L : Nat} {xs : Nat → Int32} {d x : Nat} {M : qxM} {st : List Value} {ls : qxL} {t : Nat} {j : Int32} (hk : qx_kd t = 0) (hj : qx_ib j (qx_ln t) = true) : Rs L xs (d) 307 42 ls (.int j :: .ref t :: st) M x = Rs L xs (d) 307 43 ls (.int (M.1 t j.toNatClampNeg) :: st) M x := by
  have h1 := qx_kd_row (k := 0) (by decide) hk
  exact Rs_unless (qx_ib_not hj) c307_42 (by unfold qx_act; dsimp only; rw [h1]; rfl)
theorem c307_43 : qx_code 307 43 = some (43, .invokevirtual 184, 46, 184, 2, 1765) := by decide +kernel
theorem s307_43 {L : Nat} {xs : Nat → Int32} {d x : Nat} {M : qxM} {st : List Value} {ls : qxL} {t : Nat} {z0 : Int32} (hk : qx_kd t = 18) (hs : st.length ≤ 4) : Rs L xs (d + 1) 307 43 ls (.int z0 :: .ref t :: st) M x = (Rs L xs d 184 0 [some (.ref t), some (.int z0)] [] M 0).bind (qx_kn L xs (d + 1) 307 43 46 184 ls st x) := by
  have h1 : qx_act L xs (qx_rt 307) (43, .invokevirtual 184, 46, 184, 2, 1765) ls (.int z0 :: .ref t :: st) M = if 2 ≤ (.int z0 :: .ref t :: st).length ∧ st.length ≤ 4 then some (.inr (.inr (.inr (184, [.ref t, .int z0], st)))) else none := rfl
  rw [if_pos ⟨by simp [List.length_cons]; try omega, hs⟩] at h1
  have h2 := qx_kd_obj (k := 8) (by decide) hk
  exact Rs_call c307_43 h1 (by rw [show qx_args 184 [.ref t, .int z0] = decide (qx_sh t = some (.inl 8)) from rfl]; exact decide_eq_true h2)
theorem c307_46 : qx_code 307 46 = some (46, .ireturn, 47, 0, 0, 0) := by decide +kernel
theorem s307_46 {L : Nat} {xs : Nat → Int32} {d x : Nat} {M : qxM} {ls : qxL} {z : Int32} : Rs L xs (d) 307 46 ls [.int z] M x = some (.inl (some (.int z)), M, x) := Rs_ret c307_46 rfl
theorem c308_0 : qx_code 308 0 = some (0, .aload_n 0, 1, 0, 0, 0) := by decide +kernel
theorem s308_0 {L : Nat} {xs : Nat → Int32} {d x : Nat} {M : qxM} {st : List Value} {a1 : Option Value} {z : Nat} : Rs L xs (d) 308 0 [some (.ref z), a1] st M x = Rs L xs (d) 308 1 [some (.ref z), a1] (.ref z :: st) M x := Rs_next c308_0 rfl
theorem c308_1 : qx_code 308 1 = some (1, .iload_n 1, 2, 0, 0, 0) := by decide +kernel
theorem s308_1 {L : Nat} {xs : Nat → Int32} {d x : Nat} {M : qxM} {st : List Value} {a0 : Option Value} {z : Int32} : Rs L xs (d) 308 1 [a0, some (.int z)] st M x = Rs L xs (d) 308 2 [a0, some (.int z)] (.int z :: st) M x := Rs_next c308_1 rfl
theorem c308_2 : qx_code 308 2 = some (2, .invokevirtual 232, 5, 226, 2, 1819) := by decide +kernel
theorem s308_2 {L : Nat} {xs : Nat → Int32} {d x : Nat} {M : qxM} {st : List Value} {ls : qxL} {t : Nat} {z0 : Int32} (hk : qx_kd t = 18) (hs : st.length ≤ 4) : Rs L xs (d + 1) 308 2 ls (.int z0 :: .ref t :: st) M x = (Rs L xs d 226 0 [some (.ref t), some (.int z0)] [] M 0).bind (qx_kn L xs (d + 1) 308 2 5 226 ls st x) := by
  have h1 : qx_act L xs (qx_rt 308) (2, .invokevirtual 232, 5, 226, 2, 1819) ls (.int z0 :: .ref t :: st) M = if 2 ≤ (.int z0 :: .ref t :: st).length ∧ st.length ≤ 4 then some (.inr (.inr (.inr (226, [.ref t, .int z0], st)))) else none := rfl
  rw [if_pos ⟨by simp [List.length_cons]; try omega, hs⟩] at h1
  have h2 := qx_kd_obj (k := 8) (by decide) hk
  exact Rs_call c308_2 h1 (by rw [show qx_args 226 [.ref t, .int z0] = decide (qx_sh t = some (.inl 8)) from rfl]; exact decide_eq_true h2)
theorem c308_5 : qx_code 308 5 = some (5, .ifCond .ne 5, 8, 10, 0, 0) := by decide +kernel
theorem s308_5 {L : Nat} {xs : Nat → Int32} {d x : Nat} {M : qxM} {st : List Value} {ls : qxL} {z : Int32} : Rs L xs (d) 308 5 ls (.int z :: st) M x = if z = 0 then Rs L xs (d) 308 8 ls st M x else Rs L xs (d) 308 10 ls st M x := Rs_ite c308_5 rfl
theorem c308_8 : qx_code 308 8 = some (8, .iconst 0, 9, 0, 0, 0) := by decide +kernel
theorem s308_8 {L : Nat} {xs : Nat → Int32} {d x : Nat} {M : qxM} {st : List Value} {ls : qxL} : Rs L xs (d) 308 8 ls st M x = Rs L xs (d) 308 9 ls (.int (nI 0) :: st) M x := Rs_next c308_8 rfl
theorem c308_9 : qx_code 308 9 = some (9, .ireturn, 10, 0, 0, 0) := by decide +kernel
theorem s308_9 {L : Nat} {xs : Nat → Int32} {d x : Nat} {M : qxM} {ls : qxL} {z : Int32} : Rs L xs (d) 308 9 ls [.int z] M x = some (.inl (some (.int z)), M, x) := Rs_ret c308_9 rfl
theorem c308_10 : qx_code 308 10 = some (10, .aload_n 0, 11, 0, 0, 0) := by decide +kernel
theorem s308_10 {L : Nat} {xs : Nat → Int32} {d x : Nat} {M : qxM} {st : List Value} {a1 : Option Value} {z : Nat} : Rs L xs (d) 308 10 [some (.ref z), a1] st M x = Rs L xs (d) 308 11 [some (.ref z), a1] (.ref z :: st) M x := Rs_next c308_10 rfl
theorem c308_11 : qx_code 308 11 = some (11, .iload_n 1, 12, 0, 0, 0) := by decide +kernel
theorem s308_11 {L : Nat} {xs : Nat → Int32} {d x : Nat} {M : qxM} {st : List Value} {a0 : Option Value} {z : Int32} : Rs L xs (d) 308 11 [a0, some (.int z)] st M x = Rs L xs (d) 308 12 [a0, some (.int z)] (.int z :: st) M x := Rs_next c308_11 rfl
theorem c308_12 : qx_code 308 12 = some (12, .invokevirtual 132, 15, 213, 2, 1737) := by decide +kernel
theorem s308_12 {L : Nat} {xs : Nat → Int32} {d x : Nat} {M : qxM} {st : List Value} {ls : qxL} {t : Nat} {z0 : Int32} (hk : qx_kd t = 18) (hs : st.length ≤ 4) : Rs L xs (d + 1) 308 12 ls (.int z0 :: .ref t :: st) M x = (Rs L xs d 213 0 [some (.ref t), some (.int z0)] [] M 0).bind (qx_kn L xs (d + 1) 308 12 15 213 ls st x) := by
  have h1 : qx_act L xs (qx_rt 308) (12, .invokevirtual 132, 15, 213, 2, 1737) ls (.int z0 :: .ref t :: st) M = if 2 ≤ (.int z0 :: .ref t :: st).length ∧ st.length ≤ 4 then some (.inr (.inr (.inr (213, [.ref t, .int z0], st)))) else none := rfl
  rw [if_pos ⟨by simp [List.length_cons]; try omega, hs⟩] at h1
  have h2 := qx_kd_obj (k := 8) (by decide) hk
  exact Rs_call c308_12 h1 (by rw [show qx_args 213 [.ref t, .int z0] = decide (qx_sh t = some (.inl 8)) from rfl]; exact decide_eq_true h2)
theorem c308_15 : qx_code 308 15 = some (15, .iconst (-1), 16, 0, 0, 0) := by decide +kernel
theorem s308_15 {L : Nat} {xs : Nat → Int32} {d x : Nat} {M : qxM} {st : List Value} {ls : qxL} : Rs L xs (d) 308 15 ls st M x = Rs L xs (d) 308 16 ls (.int (-1) :: st) M x := Rs_next c308_15 rfl
theorem c308_16 : qx_code 308 16 = some (16, .if_icmp .eq 5, 19, 21, 0, 0) := by decide +kernel
theorem s308_16 {L : Nat} {xs : Nat → Int32} {d x : Nat} {M : qxM} {st : List Value} {ls : qxL} {z y : Int32} : Rs L xs (d) 308 16 ls (.int y :: .int z :: st) M x = if z = y then Rs L xs (d) 308 21 ls st M x else Rs L xs (d) 308 19 ls st M x := Rs_ite c308_16 rfl
theorem c308_19 : qx_code 308 19 = some (19, .iconst (-1), 20, 0, 0, 0) := by decide +kernel
theorem s308_19 {L : Nat} {xs : Nat → Int32} {d x : Nat} {M : qxM} {st : List Value} {ls : qxL} : Rs L xs (d) 308 19 ls st M x = Rs L xs (d) 308 20 ls (.int (-1) :: st) M x := Rs_next c308_19 rfl
theorem c308_20 : qx_code 308 20 = some (20, .ireturn, 21, 0, 0, 0) := by decide +kernel
theorem s308_20 {L : Nat} {xs : Nat → Int32} {d x : Nat} {M : qxM} {ls : qxL} {z : Int32} : Rs L xs (d) 308 20 ls [.int z] M x = some (.inl (some (.int z)), M, x) := Rs_ret c308_20 rfl
theorem c308_21 : qx_code 308 21 = some (21, .aload_n 0, 22, 0, 0, 0) := by decide +kernel
theorem s308_21 {L : Nat} {xs : Nat → Int32} {d x : Nat} {M : qxM} {st : List Value} {a1 : Option Value} {z : Nat} : Rs L xs (d) 308 21 [some (.ref z), a1] st M x = Rs L xs (d) 308 22 [some (.ref z), a1] (.ref z :: st) M x := Rs_next c308_21 rfl
theorem c308_22 : qx_code 308 22 = some (22, .invokevirtual 178, 25, 183, 1, 1648) := by decide +kernel
theorem s308_22 {L : Nat} {xs : Nat → Int32} {d x : Nat} {M : qxM} {st : List Value} {ls : qxL} {t : Nat} (hk : qx_kd t = 18) (hs : st.length ≤ 4) : Rs L xs (d + 1) 308 22 ls (.ref t :: st) M x = (Rs L xs d 183 0 [some (.ref t)] [] M 0).bind (qx_kn L xs (d + 1) 308 22 25 183 ls st x) := by
  have h1 : qx_act L xs (qx_rt 308) (22, .invokevirtual 178, 25, 183, 1, 1648) ls (.ref t :: st) M = if 1 ≤ (.ref t :: st).length ∧ st.length ≤ 4 then some (.inr (.inr (.inr (183, [.ref t], st)))) else none := rfl
  rw [if_pos ⟨by simp [List.length_cons]; try omega, hs⟩] at h1
  have h2 := qx_kd_obj (k := 8) (by decide) hk
  exact Rs_call c308_22 h1 (by rw [show qx_args 183 [.ref t] = decide (qx_sh t = some (.inl 8)) from rfl]; exact decide_eq_true h2)
theorem c308_25 : qx_code 308 25 = some (25, .aload_n 0, 26, 0, 0, 0) := by decide +kernel
theorem s308_25 {L : Nat} {xs : Nat → Int32} {d x : Nat} {M : qxM} {st : List Value} {a1 : Option Value} {z : Nat} : Rs L xs (d) 308 25 [some (.ref z), a1] st M x = Rs L xs (d) 308 26 [some (.ref z), a1] (.ref z :: st) M x := Rs_next c308_25 rfl
theorem c308_26 : qx_code 308 26 = some (26, .iload_n 1, 27, 0, 0, 0) := by decide +kernel
theorem s308_26 {L : Nat} {xs : Nat → Int32} {d x : Nat} {M : qxM} {st : List Value} {a0 : Option Value} {z : Int32} : Rs L xs (d) 308 26 [a0, some (.int z)] st M x = Rs L xs (d) 308 27 [a0, some (.int z)] (.int z :: st) M x := Rs_next c308_26 rfl
theorem c308_27 : qx_code 308 27 = some (27, .invokevirtual 363, 30, 238, 2, 2073) := by decide +kernel
theorem s308_27 {L : Nat} {xs : Nat → Int32} {d x : Nat} {M : qxM} {st : List Value} {ls : qxL} {t : Nat} {z0 : Int32} (hk : qx_kd t = 18) (hs : st.length ≤ 4) : Rs L xs (d + 1) 308 27 ls (.int z0 :: .ref t :: st) M x = (Rs L xs d 238 0 [some (.ref t), some (.int z0), none] [] M 0).bind (qx_kn L xs (d + 1) 308 27 30 238 ls st x) := by
  have h1 : qx_act L xs (qx_rt 308) (27, .invokevirtual 363, 30, 238, 2, 2073) ls (.int z0 :: .ref t :: st) M = if 2 ≤ (.int z0 :: .ref t :: st).length ∧ st.length ≤ 4 then some (.inr (.inr (.inr (238, [.ref t, .int z0], st)))) else none := rfl
  rw [if_pos ⟨by simp [List.length_cons]; try omega, hs⟩] at h1
  have h2 := qx_kd_obj (k := 8) (by decide) hk
  exact Rs_call c308_27 h1 (by rw [show qx_args 238 [.ref t, .int z0] = decide (qx_sh t = some (.inl 8)) from rfl]; exact decide_eq_true h2)
theorem c308_30 : qx_code 308 30 = some (30, .aload_n 0, 31, 0, 0, 0) := by decide +kernel
theorem s308_30 {L : Nat} {xs : Nat → Int32} {d x : Nat} {M : qxM} {st : List Value} {a1 : Option Value} {z : Nat} : Rs L xs (d) 308 30 [some (.ref z), a1] st M x = Rs L xs (d) 308 31 [some (.ref z), a1] (.ref z :: st) M x := Rs_next c308_30 rfl
theorem c308_31 : qx_code 308 31 = some (31, .aload_n 0, 32, 0, 0, 0) := by decide +kernel
theorem s308_31 {L : Nat} {xs : Nat → Int32} {d x : Nat} {M : qxM} {st : List Value} {a1 : Option Value} {z : Nat} : Rs L xs (d) 308 31 [some (.ref z), a1] st M x = Rs L xs (d) 308 32 [some (.ref z), a1] (.ref z :: st) M x := Rs_next c308_31 rfl
theorem c308_32 : qx_code 308 32 = some (32, .invokevirtual 366, 35, 251, 1, 2089) := by decide +kernel
theorem s308_32 {L : Nat} {xs : Nat → Int32} {d x : Nat} {M : qxM} {st : List Value} {ls : qxL} {t : Nat} (hk : qx_kd t = 18) (hs : st.length ≤ 4) : Rs L xs (d + 1) 308 32 ls (.ref t :: st) M x = (Rs L xs d 251 0 [some (.ref t), none, none] [] M 0).bind (qx_kn L xs (d + 1) 308 32 35 251 ls st x) := by
  have h1 : qx_act L xs (qx_rt 308) (32, .invokevirtual 366, 35, 251, 1, 2089) ls (.ref t :: st) M = if 1 ≤ (.ref t :: st).length ∧ st.length ≤ 4 then some (.inr (.inr (.inr (251, [.ref t], st)))) else none := rfl
  rw [if_pos ⟨by simp [List.length_cons]; try omega, hs⟩] at h1
  have h2 := qx_kd_obj (k := 8) (by decide) hk
  exact Rs_call c308_32 h1 (by rw [show qx_args 251 [.ref t] = decide (qx_sh t = some (.inl 8)) from rfl]; exact decide_eq_true h2)
theorem c308_35 : qx_code 308 35 = some (35, .invokevirtual 184, 38, 184, 2, 1765) := by decide +kernel
theorem s308_35 {L : Nat} {xs : Nat → Int32} {d x : Nat} {M : qxM} {st : List Value} {ls : qxL} {t : Nat} {z0 : Int32} (hk : qx_kd t = 18) (hs : st.length ≤ 4) : Rs L xs (d + 1) 308 35 ls (.int z0 :: .ref t :: st) M x = (Rs L xs d 184 0 [some (.ref t), some (.int z0)] [] M 0).bind (qx_kn L xs (d + 1) 308 35 38 184 ls st x) := by
  have h1 : qx_act L xs (qx_rt 308) (35, .invokevirtual 184, 38, 184, 2, 1765) ls (.int z0 :: .ref t :: st) M = if 2 ≤ (.int z0 :: .ref t :: st).length ∧ st.length ≤ 4 then some (.inr (.inr (.inr (184, [.ref t, .int z0], st)))) else none := rfl
  rw [if_pos ⟨by simp [List.length_cons]; try omega, hs⟩] at h1
  have h2 := qx_kd_obj (k := 8) (by decide) hk
  exact Rs_call c308_35 h1 (by rw [show qx_args 184 [.ref t, .int z0] = decide (qx_sh t = some (.inl 8)) from rfl]; exact decide_eq_true h2)
theorem c308_38 : qx_code 308 38 = some (38, .ireturn, 39, 0, 0, 0) := by decide +kernel
theorem s308_38 {L : Nat} {xs : Nat → Int32} {d x : Nat} {M : qxM} {ls : qxL} {z : Int32} : Rs L xs (d) 308 38 ls [.int z] M x = some (.inl (some (.int z)), M, x) := Rs_ret c308_38 rfl
theorem c309_0 : qx_code 309 0 = some (0, .aload_n 0, 1, 0, 0, 0) := by decide +kernel
theorem s309_0 {L : Nat} {xs : Nat → Int32} {d x : Nat} {M : qxM} {st : List Value} {z : Nat} : Rs L xs (d) 309 0 [some (.ref z)] st M x = Rs L xs (d) 309 1 [some (.ref z)] (.ref z :: st) M x := Rs_next c309_0 rfl
theorem c309_1 : qx_code 309 1 = some (1, .invokevirtual 306, 4, 263, 1, 1882) := by decide +kernel
theorem s309_1 {L : Nat} {xs : Nat → Int32} {d x : Nat} {M : qxM} {st : List Value} {ls : qxL} {t : Nat} (hk : qx_kd t = 18) (hs : st.length ≤ 4) : Rs L xs (d + 1) 309 1 ls (.ref t :: st) M x = (Rs L xs d 263 0 [some (.ref t)] [] M 0).bind (qx_kn L xs (d + 1) 309 1 4 263 ls st x) := by
  have h1 : qx_act L xs (qx_rt 309) (1, .invokevirtual 306, 4, 263, 1, 1882) ls (.ref t :: st) M = if 1 ≤ (.ref t :: st).length ∧ st.length ≤ 4 then some (.inr (.inr (.inr (263, [.ref t], st)))) else none := rfl
  rw [if_pos ⟨by simp [List.length_cons]; try omega, hs⟩] at h1
  have h2 := qx_kd_obj (k := 8) (by decide) hk
  exact Rs_call c309_1 h1 (by rw [show qx_args 263 [.ref t] = decide (qx_sh t = some (.inl 8)) from rfl]; exact decide_eq_true h2)
theorem c309_4 : qx_code 309 4 = some (4, .ifCond .eq 22, 7, 26, 0, 0) := by decide +kernel
theorem s309_4 {L : Nat} {xs : Nat → Int32} {d x : Nat} {M : qxM} {st : List Value} {ls : qxL} {z : Int32} : Rs L xs (d) 309 4 ls (.int z :: st) M x = if z = 0 then Rs L xs (d) 309 26 ls st M x else Rs L xs (d) 309 7 ls st M x := Rs_ite c309_4 rfl
theorem c309_7 : qx_code 309 7 = some (7, .iconst 2, 8, 0, 0, 0) := by decide +kernel
theorem s309_7 {L : Nat} {xs : Nat → Int32} {d x : Nat} {M : qxM} {st : List Value} {ls : qxL} : Rs L xs (d) 309 7 ls st M x = Rs L xs (d) 309 8 ls (.int (nI 2) :: st) M x := Rs_next c309_7 rfl
theorem c309_8 : qx_code 309 8 = some (8, .aload_n 0, 9, 0, 0, 0) := by decide +kernel
theorem s309_8 {L : Nat} {xs : Nat → Int32} {d x : Nat} {M : qxM} {st : List Value} {z : Nat} : Rs L xs (d) 309 8 [some (.ref z)] st M x = Rs L xs (d) 309 9 [some (.ref z)] (.ref z :: st) M x := Rs_next c309_8 rfl
theorem c309_9 : qx_code 309 9 = some (9, .iconst 1, 10, 0, 0, 0) := by decide +kernel
theorem s309_9 {L : Nat} {xs : Nat → Int32} {d x : Nat} {M : qxM} {st : List Value} {ls : qxL} : Rs L xs (d) 309 9 ls st M x = Rs L xs (d) 309 10 ls (.int (nI 1) :: st) M x := Rs_next c309_9 rfl
theorem c309_10 : qx_code 309 10 = some (10, .invokevirtual 220, 13, 222, 2, 1777) := by decide +kernel
theorem s309_10 {L : Nat} {xs : Nat → Int32} {d x : Nat} {M : qxM} {st : List Value} {ls : qxL} {t : Nat} {z0 : Int32} (hk : qx_kd t = 18) (hs : st.length ≤ 4) : Rs L xs (d + 1) 309 10 ls (.int z0 :: .ref t :: st) M x = (Rs L xs d 222 0 [some (.ref t), some (.int z0), none, none] [] M 0).bind (qx_kn L xs (d + 1) 309 10 13 222 ls st x) := by
  have h1 : qx_act L xs (qx_rt 309) (10, .invokevirtual 220, 13, 222, 2, 1777) ls (.int z0 :: .ref t :: st) M = if 2 ≤ (.int z0 :: .ref t :: st).length ∧ st.length ≤ 4 then some (.inr (.inr (.inr (222, [.ref t, .int z0], st)))) else none := rfl
  rw [if_pos ⟨by simp [List.length_cons]; try omega, hs⟩] at h1
  have h2 := qx_kd_obj (k := 8) (by decide) hk
  exact Rs_call c309_10 h1 (by rw [show qx_args 222 [.ref t, .int z0] = decide (qx_sh t = some (.inl 8)) from rfl]; exact decide_eq_true h2)
theorem c309_13 : qx_code 309 13 = some (13, .imul, 14, 0, 0, 0) := by decide +kernel
theorem s309_13 {L : Nat} {xs : Nat → Int32} {d x : Nat} {M : qxM} {st : List Value} {ls : qxL} {z y : Int32} : Rs L xs (d) 309 13 ls (.int y :: .int z :: st) M x = Rs L xs (d) 309 14 ls (.int (z * y) :: st) M x := Rs_next c309_13 rfl
theorem c309_14 : qx_code 309 14 = some (14, .i2d, 15, 0, 0, 0) := by decide +kernel
theorem s309_14 {L : Nat} {xs : Nat → Int32} {d x : Nat} {M : qxM} {st : List Value} {ls : qxL} {z : Int32} : Rs L xs (d) 309 14 ls (.int z :: st) M x = Rs L xs (d) 309 15 ls (.double (FP.i2d z) :: st) M x := Rs_next c309_14 rfl
theorem c309_15 : qx_code 309 15 = some (15, .aload_n 0, 16, 0, 0, 0) := by decide +kernel
theorem s309_15 {L : Nat} {xs : Nat → Int32} {d x : Nat} {M : qxM} {st : List Value} {z : Nat} : Rs L xs (d) 309 15 [some (.ref z)] st M x = Rs L xs (d) 309 16 [some (.ref z)] (.ref z :: st) M x := Rs_next c309_15 rfl
theorem c309_16 : qx_code 309 16 = some (16, .getfield 9, 19, 8, 1, 1546) := by decide +kernel
theorem s309_16 {L : Nat} {xs : Nat → Int32} {d x : Nat} {M : qxM} {st : List Value} {ls : qxL} {t : Nat} (hk : qx_kd t = 18) : Rs L xs (d) 309 16 ls (.ref t :: st) M x = Rs L xs (d) 309 19 ls (.ref (t + 1) :: st) M x := Rs_when (qx_kd_obj (k := 8) (by decide) hk) c309_16 rfl
theorem c309_19 : qx_code 309 19 = some (19, .iconst 0, 20, 0, 0, 0) := by decide +kernel
theorem s309_19 {L : Nat} {xs : Nat → Int32} {d x : Nat} {M : qxM} {st : List Value} {ls : qxL} : Rs L xs (d) 309 19 ls st M x = Rs L xs (d) 309 20 ls (.int (nI 0) :: st) M x := Rs_next c309_19 rfl
theorem c309_20 : qx_code 309 20 = some (20, .iaload, 21, 0, 0, 0) := by decide +kernel
theorem s309_20 {L : Nat} {xs : Nat → Int32} {d x : Nat} {M : qxM} {st : List Value} {ls : qxL} {t : Nat} {j : Int32} (hk : qx_kd t = 0) (hj : qx_ib j (qx_ln t) = true) : Rs L xs (d) 309 20 ls (.int j :: .ref t :: st) M x = Rs L xs (d) 309 21 ls (.int (M.1 t j.toNatClampNeg) :: st) M x := by
  have h1 := qx_kd_row (k := 0) (by decide) hk
  exact Rs_unless (qx_ib_not hj) c309_20 (by unfold qx_act; dsimp only; rw [h1]; rfl)
theorem c309_21 : qx_code 309 21 = some (21, .i2d, 22, 0, 0, 0) := by decide +kernel
theorem s309_21 {L : Nat} {xs : Nat → Int32} {d x : Nat} {M : qxM} {st : List Value} {ls : qxL} {z : Int32} : Rs L xs (d) 309 21 ls (.int z :: st) M x = Rs L xs (d) 309 22 ls (.double (FP.i2d z) :: st) M x := Rs_next c309_21 rfl
theorem c309_22 : qx_code 309 22 = some (22, .ddiv, 23, 0, 0, 0) := by decide +kernel
theorem s309_22 {L : Nat} {xs : Nat → Int32} {d x : Nat} {M : qxM} {st : List Value} {ls : qxL} {z y : UInt64} (h : FP.ddiv z y &&& 0x7fffffffffffffff ≤ 0x7ff0000000000000) : Rs L xs (d) 309 22 ls (.double y :: .double z :: st) M x = Rs L xs (d) 309 23 ls (.double (FP.ddiv z y) :: st) M x := Rs_when h c309_22 rfl
theorem c309_23 : qx_code 309 23 = some (23, .goto 4, 26, 27, 0, 0) := by decide +kernel
theorem s309_23 {L : Nat} {xs : Nat → Int32} {d x : Nat} {M : qxM} {st : List Value} {ls : qxL} : Rs L xs (d) 309 23 ls st M x = Rs L xs (d) 309 27 ls st M x := Rs_next c309_23 rfl
theorem c309_26 : qx_code 309 26 = some (26, .dconst 0, 27, 0, 0, 0) := by decide +kernel
theorem s309_26 {L : Nat} {xs : Nat → Int32} {d x : Nat} {M : qxM} {st : List Value} {ls : qxL} : Rs L xs (d) 309 26 ls st M x = Rs L xs (d) 309 27 ls (.double FP.dconst0 :: st) M x := Rs_next c309_26 rfl
theorem c309_27 : qx_code 309 27 = some (27, .dreturn, 28, 0, 0, 0) := by decide +kernel
theorem s309_27 {L : Nat} {xs : Nat → Int32} {d x : Nat} {M : qxM} {ls : qxL} {z : UInt64} : Rs L xs (d) 309 27 ls [.double z] M x = some (.inl (some (.double z)), M, x) := Rs_ret c309_27 rfl
theorem c310_0 : qx_code 310 0 = some (0, .aload_n 0, 1, 0, 0, 0) := by decide +kernel
theorem s310_0 {L : Nat} {xs : Nat → Int32} {d x : Nat} {M : qxM} {st : List Value} {z : Nat} : Rs L xs (d) 310 0 [some (.ref z)] st M x = Rs L xs (d) 310 1 [some (.ref z)] (.ref z :: st) M x := Rs_next c310_0 rfl
theorem c310_1 : qx_code 310 1 = some (1, .invokevirtual 306, 4, 263, 1, 1882) := by decide +kernel
theorem s310_1 {L : Nat} {xs : Nat → Int32} {d x : Nat} {M : qxM} {st : List Value} {ls : qxL} {t : Nat} (hk : qx_kd t = 18) (hs : st.length ≤ 4) : Rs L xs (d + 1) 310 1 ls (.ref t :: st) M x = (Rs L xs d 263 0 [some (.ref t)] [] M 0).bind (qx_kn L xs (d + 1) 310 1 4 263 ls st x) := by
  have h1 : qx_act L xs (qx_rt 310) (1, .invokevirtual 306, 4, 263, 1, 1882) ls (.ref t :: st) M = if 1 ≤ (.ref t :: st).length ∧ st.length ≤ 4 then some (.inr (.inr (.inr (263, [.ref t], st)))) else none := rfl
  rw [if_pos ⟨by simp [List.length_cons]; try omega, hs⟩] at h1
  have h2 := qx_kd_obj (k := 8) (by decide) hk
  exact Rs_call c310_1 h1 (by rw [show qx_args 263 [.ref t] = decide (qx_sh t = some (.inl 8)) from rfl]; exact decide_eq_true h2)
theorem c310_4 : qx_code 310 4 = some (4, .ifCond .eq 21, 7, 25, 0, 0) := by decide +kernel
theorem s310_4 {L : Nat} {xs : Nat → Int32} {d x : Nat} {M : qxM} {st : List Value} {ls : qxL} {z : Int32} : Rs L xs (d) 310 4 ls (.int z :: st) M x = if z = 0 then Rs L xs (d) 310 25 ls st M x else Rs L xs (d) 310 7 ls st M x := Rs_ite c310_4 rfl
theorem c310_7 : qx_code 310 7 = some (7, .iconst 2, 8, 0, 0, 0) := by decide +kernel
theorem s310_7 {L : Nat} {xs : Nat → Int32} {d x : Nat} {M : qxM} {st : List Value} {ls : qxL} : Rs L xs (d) 310 7 ls st M x = Rs L xs (d) 310 8 ls (.int (nI 2) :: st) M x := Rs_next c310_7 rfl
theorem c310_8 : qx_code 310 8 = some (8, .aload_n 0, 9, 0, 0, 0) := by decide +kernel
theorem s310_8 {L : Nat} {xs : Nat → Int32} {d x : Nat} {M : qxM} {st : List Value} {z : Nat} : Rs L xs (d) 310 8 [some (.ref z)] st M x = Rs L xs (d) 310 9 [some (.ref z)] (.ref z :: st) M x := Rs_next c310_8 rfl
theorem c310_9 : qx_code 310 9 = some (9, .invokevirtual 223, 12, 224, 1, 1791) := by decide +kernel
theorem s310_9 {L : Nat} {xs : Nat → Int32} {d x : Nat} {M : qxM} {st : List Value} {ls : qxL} {t : Nat} (hk : qx_kd t = 18) (hs : st.length ≤ 4) : Rs L xs (d + 1) 310 9 ls (.ref t :: st) M x = (Rs L xs d 224 0 [some (.ref t)] [] M 0).bind (qx_kn L xs (d + 1) 310 9 12 224 ls st x) := by
  have h1 : qx_act L xs (qx_rt 310) (9, .invokevirtual 223, 12, 224, 1, 1791) ls (.ref t :: st) M = if 1 ≤ (.ref t :: st).length ∧ st.length ≤ 4 then some (.inr (.inr (.inr (224, [.ref t], st)))) else none := rfl
  rw [if_pos ⟨by simp [List.length_cons]; try omega, hs⟩] at h1
  have h2 := qx_kd_obj (k := 8) (by decide) hk
  exact Rs_call c310_9 h1 (by rw [show qx_args 224 [.ref t] = decide (qx_sh t = some (.inl 8)) from rfl]; exact decide_eq_true h2)
theorem c310_12 : qx_code 310 12 = some (12, .imul, 13, 0, 0, 0) := by decide +kernel
theorem s310_12 {L : Nat} {xs : Nat → Int32} {d x : Nat} {M : qxM} {st : List Value} {ls : qxL} {z y : Int32} : Rs L xs (d) 310 12 ls (.int y :: .int z :: st) M x = Rs L xs (d) 310 13 ls (.int (z * y) :: st) M x := Rs_next c310_12 rfl
theorem c310_13 : qx_code 310 13 = some (13, .i2f, 14, 0, 0, 0) := by decide +kernel
theorem s310_13 {L : Nat} {xs : Nat → Int32} {d x : Nat} {M : qxM} {st : List Value} {ls : qxL} {z : Int32} : Rs L xs (d) 310 13 ls (.int z :: st) M x = Rs L xs (d) 310 14 ls (.float (FP.i2f z) :: st) M x := Rs_next c310_13 rfl
theorem c310_14 : qx_code 310 14 = some (14, .aload_n 0, 15, 0, 0, 0) := by decide +kernel
theorem s310_14 {L : Nat} {xs : Nat → Int32} {d x : Nat} {M : qxM} {st : List Value} {z : Nat} : Rs L xs (d) 310 14 [some (.ref z)] st M x = Rs L xs (d) 310 15 [some (.ref z)] (.ref z :: st) M x := Rs_next c310_14 rfl
theorem c310_15 : qx_code 310 15 = some (15, .getfield 9, 18, 8, 1, 1546) := by decide +kernel
theorem s310_15 {L : Nat} {xs : Nat → Int32} {d x : Nat} {M : qxM} {st : List Value} {ls : qxL} {t : Nat} (hk : qx_kd t = 18) : Rs L xs (d) 310 15 ls (.ref t :: st) M x = Rs L xs (d) 310 18 ls (.ref (t + 1) :: st) M x := Rs_when (qx_kd_obj (k := 8) (by decide) hk) c310_15 rfl
theorem c310_18 : qx_code 310 18 = some (18, .iconst 0, 19, 0, 0, 0) := by decide +kernel
theorem s310_18 {L : Nat} {xs : Nat → Int32} {d x : Nat} {M : qxM} {st : List Value} {ls : qxL} : Rs L xs (d) 310 18 ls st M x = Rs L xs (d) 310 19 ls (.int (nI 0) :: st) M x := Rs_next c310_18 rfl
theorem c310_19 : qx_code 310 19 = some (19, .iaload, 20, 0, 0, 0) := by decide +kernel
theorem s310_19 {L : Nat} {xs : Nat → Int32} {d x : Nat} {M : qxM} {st : List Value} {ls : qxL} {t : Nat} {j : Int32} (hk : qx_kd t = 0) (hj : qx_ib j (qx_ln t) = true) : Rs L xs (d) 310 19 ls (.int j :: .ref t :: st) M x = Rs L xs (d) 310 20 ls (.int (M.1 t j.toNatClampNeg) :: st) M x := by
  have h1 := qx_kd_row (k := 0) (by decide) hk
  exact Rs_unless (qx_ib_not hj) c310_19 (by unfold qx_act; dsimp only; rw [h1]; rfl)
theorem c310_20 : qx_code 310 20 = some (20, .i2f, 21, 0, 0, 0) := by decide +kernel
theorem s310_20 {L : Nat} {xs : Nat → Int32} {d x : Nat} {M : qxM} {st : List Value} {ls : qxL} {z : Int32} : Rs L xs (d) 310 20 ls (.int z :: st) M x = Rs L xs (d) 310 21 ls (.float (FP.i2f z) :: st) M x := Rs_next c310_20 rfl
theorem c310_21 : qx_code 310 21 = some (21, .fdiv, 22, 0, 0, 0) := by decide +kernel
theorem s310_21 {L : Nat} {xs : Nat → Int32} {d x : Nat} {M : qxM} {st : List Value} {ls : qxL} {z y : UInt32} (h : FP.fdiv z y &&& 0x7fffffff ≤ 0x7f800000) : Rs L xs (d) 310 21 ls (.float y :: .float z :: st) M x = Rs L xs (d) 310 22 ls (.float (FP.fdiv z y) :: st) M x := Rs_when h c310_21 rfl
theorem c310_22 : qx_code 310 22 = some (22, .goto 4, 25, 26, 0, 0) := by decide +kernel
theorem s310_22 {L : Nat} {xs : Nat → Int32} {d x : Nat} {M : qxM} {st : List Value} {ls : qxL} : Rs L xs (d) 310 22 ls st M x = Rs L xs (d) 310 26 ls st M x := Rs_next c310_22 rfl
theorem c310_25 : qx_code 310 25 = some (25, .fconst 0, 26, 0, 0, 0) := by decide +kernel
theorem s310_25 {L : Nat} {xs : Nat → Int32} {d x : Nat} {M : qxM} {st : List Value} {ls : qxL} : Rs L xs (d) 310 25 ls st M x = Rs L xs (d) 310 26 ls (.float FP.fconst0 :: st) M x := Rs_next c310_25 rfl
theorem c310_26 : qx_code 310 26 = some (26, .freturn, 27, 0, 0, 0) := by decide +kernel
theorem s310_26 {L : Nat} {xs : Nat → Int32} {d x : Nat} {M : qxM} {ls : qxL} {z : UInt32} : Rs L xs (d) 310 26 ls [.float z] M x = some (.inl (some (.float z)), M, x) := Rs_ret c310_26 rfl
theorem c311_0 : qx_code 311 0 = some (0, .aload_n 0, 1, 0, 0, 0) := by decide +kernel
theorem s311_0 {L : Nat} {xs : Nat → Int32} {d x : Nat} {M : qxM} {st : List Value} {a1 : Option Value} {z : Nat} : Rs L xs (d) 311 0 [some (.ref z), a1] st M x = Rs L xs (d) 311 1 [some (.ref z), a1] (.ref z :: st) M x := Rs_next c311_0 rfl
theorem c311_1 : qx_code 311 1 = some (1, .getfield 43, 4, 8, 20, 1565) := by decide +kernel
theorem s311_1 {L : Nat} {xs : Nat → Int32} {d x : Nat} {M : qxM} {st : List Value} {ls : qxL} {t : Nat} (hk : qx_kd t = 18) : Rs L xs (d) 311 1 ls (.ref t :: st) M x = Rs L xs (d) 311 4 ls (.ref (t + 10) :: st) M x := Rs_when (qx_kd_obj (k := 8) (by decide) hk) c311_1 rfl
theorem c311_4 : qx_code 311 4 = some (4, .aload_n 0, 5, 0, 0, 0) := by decide +kernel
theorem s311_4 {L : Nat} {xs : Nat → Int32} {d x : Nat} {M : qxM} {st : List Value} {a1 : Option Value} {z : Nat} : Rs L xs (d) 311 4 [some (.ref z), a1] st M x = Rs L xs (d) 311 5 [some (.ref z), a1] (.ref z :: st) M x := Rs_next c311_4 rfl
theorem c311_5 : qx_code 311 5 = some (5, .getfield 369, 8, 8, 21, 1566) := by decide +kernel
theorem s311_5 {L : Nat} {xs : Nat → Int32} {d x : Nat} {M : qxM} {st : List Value} {ls : qxL} {t : Nat} (hk : qx_kd t = 18) : Rs L xs (d) 311 5 ls (.ref t :: st) M x = Rs L xs (d) 311 8 ls (.int (M.1 t 21) :: st) M x := Rs_when (qx_kd_obj (k := 8) (by decide) hk) c311_5 rfl
theorem c311_8 : qx_code 311 8 = some (8, .iload_n 1, 9, 0, 0, 0) := by decide +kernel
theorem s311_8 {L : Nat} {xs : Nat → Int32} {d x : Nat} {M : qxM} {st : List Value} {a0 : Option Value} {z : Int32} : Rs L xs (d) 311 8 [a0, some (.int z)] st M x = Rs L xs (d) 311 9 [a0, some (.int z)] (.int z :: st) M x := Rs_next c311_8 rfl
theorem c311_9 : qx_code 311 9 = some (9, .i2b, 10, 0, 0, 0) := by decide +kernel
theorem s311_9 {L : Nat} {xs : Nat → Int32} {d x : Nat} {M : qxM} {st : List Value} {ls : qxL} {z : Int32} : Rs L xs (d) 311 9 ls (.int z :: st) M x = Rs L xs (d) 311 10 ls (.int z.toInt8.toInt32 :: st) M x := Rs_next c311_9 rfl
theorem c311_10 : qx_code 311 10 = some (10, .bastore, 11, 0, 0, 0) := by decide +kernel
theorem s311_10 {L : Nat} {xs : Nat → Int32} {d x : Nat} {M : qxM} {st : List Value} {ls : qxL} {t : Nat} {j : Int32} {z : Int32} (hk : qx_kd t = 1) (hj : qx_ib j (qx_ln t) = true) : Rs L xs (d) 311 10 ls (.int z :: .int j :: .ref t :: st) M x = Rs L xs (d) 311 11 ls st (qx_up M t j.toNatClampNeg z.toInt8.toInt32) x := by
  have h1 := qx_kd_row (k := 1) (by decide) hk
  exact Rs_unless (qx_ib_not hj) c311_10 (by unfold qx_act; dsimp only; rw [h1]; rfl)
theorem s311_10z {L : Nat} {xs : Nat → Int32} {d x : Nat} {M : qxM} {st : List Value} {ls : qxL} {t : Nat} {j : Int32} {z : Int32} (hk : qx_kd t = 2) (hj : qx_ib j (qx_ln t) = true) (h01 : z = 0 ∨ z = 1) : Rs L xs (d) 311 10 ls (.int z :: .int j :: .ref t :: st) M x = Rs L xs (d) 311 11 ls st (qx_up M t j.toNatClampNeg z) x := by
  have h1 := qx_kd_row (k := 2) (by decide) hk
  exact Rs_unless (qx_ib_not hj) c311_10 (by unfold qx_act; dsimp only; rw [h1]; first | (rw [if_pos h01]; rfl) | (simp only [if_pos h01]; rfl) | rfl)
theorem c311_11 : qx_code 311 11 = some (11, .aload_n 0, 12, 0, 0, 0) := by decide +kernel
theorem s311_11 {L : Nat} {xs : Nat → Int32} {d x : Nat} {M : qxM} {st : List Value} {a1 : Option Value} {z : Nat} : Rs L xs (d) 311 11 [some (.ref z), a1] st M x = Rs L xs (d) 311 12 [some (.ref z), a1] (.ref z :: st) M x := Rs_next c311_11 rfl
theorem c311_12 : qx_code 311 12 = some (12, .dup, 13, 0, 0, 0) := by decide +kernel
theorem s311_12r {L : Nat} {xs : Nat → Int32} {d x : Nat} {M : qxM} {st : List Value} {ls : qxL} {z : Nat} : Rs L xs (d) 311 12 ls (.ref z :: st) M x = Rs L xs (d) 311 13 ls (.ref z :: .ref z :: st) M x := Rs_next c311_12 rfl
theorem s311_12i {L : Nat} {xs : Nat → Int32} {d x : Nat} {M : qxM} {st : List Value} {ls : qxL} {z : Int32} : Rs L xs (d) 311 12 ls (.int z :: st) M x = Rs L xs (d) 311 13 ls (.int z :: .int z :: st) M x := Rs_next c311_12 rfl
theorem c311_13 : qx_code 311 13 = some (13, .getfield 369, 16, 8, 21, 1566) := by decide +kernel
theorem s311_13 {L : Nat} {xs : Nat → Int32} {d x : Nat} {M : qxM} {st : List Value} {ls : qxL} {t : Nat} (hk : qx_kd t = 18) : Rs L xs (d) 311 13 ls (.ref t :: st) M x = Rs L xs (d) 311 16 ls (.int (M.1 t 21) :: st) M x := Rs_when (qx_kd_obj (k := 8) (by decide) hk) c311_13 rfl
theorem c311_16 : qx_code 311 16 = some (16, .iconst 1, 17, 0, 0, 0) := by decide +kernel
theorem s311_16 {L : Nat} {xs : Nat → Int32} {d x : Nat} {M : qxM} {st : List Value} {ls : qxL} : Rs L xs (d) 311 16 ls st M x = Rs L xs (d) 311 17 ls (.int (nI 1) :: st) M x := Rs_next c311_16 rfl
theorem c311_17 : qx_code 311 17 = some (17, .iadd, 18, 0, 0, 0) := by decide +kernel
theorem s311_17 {L : Nat} {xs : Nat → Int32} {d x : Nat} {M : qxM} {st : List Value} {ls : qxL} {z y : Int32} : Rs L xs (d) 311 17 ls (.int y :: .int z :: st) M x = Rs L xs (d) 311 18 ls (.int (z + y) :: st) M x := Rs_next c311_17 rfl
theorem c311_18 : qx_code 311 18 = some (18, .putfield 369, 21, 8, 21, 1566) := by decide +kernel
theorem s311_18 {L : Nat} {xs : Nat → Int32} {d x : Nat} {M : qxM} {st : List Value} {ls : qxL} {t : Nat} {z : Int32} (hk : qx_kd t = 18) : Rs L xs (d) 311 18 ls (.int z :: .ref t :: st) M x = Rs L xs (d) 311 21 ls st (qx_up M t 21 z) x := Rs_when (cnd := qx_sh t = some (.inl 8) ∧ qx_fo 8 21 = none ∧ (qx_bf 8 21 = true → z = 0 ∨ z = 1)) ⟨qx_kd_obj (k := 8) (by decide) hk, rfl, fun h => nomatch h⟩ c311_18 rfl
theorem c311_21 : qx_code 311 21 = some (21, .return_, 22, 0, 0, 0) := by decide +kernel
theorem s311_21 {L : Nat} {xs : Nat → Int32} {d x : Nat} {M : qxM} {ls : qxL} : Rs L xs (d) 311 21 ls [] M x = some (.inl none, M, x) := Rs_ret c311_21 rfl
theorem c312_0 : qx_code 312 0 = some (0, .iload_n 1, 1, 0, 0, 0) := by decide +kernel
theorem s312_0 {L : Nat} {xs : Nat → Int32} {d x : Nat} {M : qxM} {st : List Value} {a0 : Option Value} {z : Int32} : Rs L xs (d) 312 0 [a0, some (.int z)] st M x = Rs L xs (d) 312 1 [a0, some (.int z)] (.int z :: st) M x := Rs_next c312_0 rfl
theorem c312_1 : qx_code 312 1 = some (1, .bipush 9, 3, 0, 0, 0) := by decide +kernel
theorem s312_1 {L : Nat} {xs : Nat → Int32} {d x : Nat} {M : qxM} {st : List Value} {ls : qxL} : Rs L xs (d) 312 1 ls st M x = Rs L xs (d) 312 3 ls (.int (nI 9) :: st) M x := Rs_next c312_1 rfl
theorem c312_3 : qx_code 312 3 = some (3, .if_icmp .le 14, 6, 17, 0, 0) := by decide +kernel
theorem s312_3 {L : Nat} {xs : Nat → Int32} {d x : Nat} {M : qxM} {st : List Value} {ls : qxL} {z y : Int32} : Rs L xs (d) 312 3 ls (.int y :: .int z :: st) M x = if z ≤ y then Rs L xs (d) 312 17 ls st M x else Rs L xs (d) 312 6 ls st M x := Rs_ite c312_3 rfl
theorem c312_6 : qx_code 312 6 = some (6, .aload_n 0, 7, 0, 0, 0) := by decide +kernel
theorem s312_6 {L : Nat} {xs : Nat → Int32} {d x : Nat} {M : qxM} {st : List Value} {a1 : Option Value} {z : Nat} : Rs L xs (d) 312 6 [some (.ref z), a1] st M x = Rs L xs (d) 312 7 [some (.ref z), a1] (.ref z :: st) M x := Rs_next c312_6 rfl
theorem c312_7 : qx_code 312 7 = some (7, .bipush 48, 9, 0, 0, 0) := by decide +kernel
theorem s312_7 {L : Nat} {xs : Nat → Int32} {d x : Nat} {M : qxM} {st : List Value} {ls : qxL} : Rs L xs (d) 312 7 ls st M x = Rs L xs (d) 312 9 ls (.int (nI 48) :: st) M x := Rs_next c312_7 rfl
theorem c312_9 : qx_code 312 9 = some (9, .iload_n 1, 10, 0, 0, 0) := by decide +kernel
theorem s312_9 {L : Nat} {xs : Nat → Int32} {d x : Nat} {M : qxM} {st : List Value} {a0 : Option Value} {z : Int32} : Rs L xs (d) 312 9 [a0, some (.int z)] st M x = Rs L xs (d) 312 10 [a0, some (.int z)] (.int z :: st) M x := Rs_next c312_9 rfl
theorem c312_10 : qx_code 312 10 = some (10, .bipush 10, 12, 0, 0, 0) := by decide +kernel
theorem s312_10 {L : Nat} {xs : Nat → Int32} {d x : Nat} {M : qxM} {st : List Value} {ls : qxL} : Rs L xs (d) 312 10 ls st M x = Rs L xs (d) 312 12 ls (.int (nI 10) :: st) M x := Rs_next c312_10 rfl
theorem c312_12 : qx_code 312 12 = some (12, .idiv, 13, 0, 0, 0) := by decide +kernel
theorem s312_12 {L : Nat} {xs : Nat → Int32} {d x : Nat} {M : qxM} {st : List Value} {ls : qxL} {z y : Int32} (h : ¬ y = 0) : Rs L xs (d) 312 12 ls (.int y :: .int z :: st) M x = Rs L xs (d) 312 13 ls (.int (z / y) :: st) M x := Rs_unless h c312_12 rfl
theorem c312_13 : qx_code 312 13 = some (13, .iadd, 14, 0, 0, 0) := by decide +kernel
theorem s312_13 {L : Nat} {xs : Nat → Int32} {d x : Nat} {M : qxM} {st : List Value} {ls : qxL} {z y : Int32} : Rs L xs (d) 312 13 ls (.int y :: .int z :: st) M x = Rs L xs (d) 312 14 ls (.int (z + y) :: st) M x := Rs_next c312_13 rfl
theorem c312_14 : qx_code 312 14 = some (14, .invokevirtual 372, 17, 311, 2, 2149) := by decide +kernel
theorem s312_14 {L : Nat} {xs : Nat → Int32} {d x : Nat} {M : qxM} {st : List Value} {ls : qxL} {t : Nat} {z0 : Int32} (hk : qx_kd t = 18) (hs : st.length ≤ 4) : Rs L xs (d + 1) 312 14 ls (.int z0 :: .ref t :: st) M x = (Rs L xs d 311 0 [some (.ref t), some (.int z0)] [] M 0).bind (qx_kn L xs (d + 1) 312 14 17 311 ls st x) := by
  have h1 : qx_act L xs (qx_rt 312) (14, .invokevirtual 372, 17, 311, 2, 2149) ls (.int z0 :: .ref t :: st) M = if 2 ≤ (.int z0 :: .ref t :: st).length ∧ st.length ≤ 4 then some (.inr (.inr (.inr (311, [.ref t, .int z0], st)))) else none := rfl
  rw [if_pos ⟨by simp [List.length_cons]; try omega, hs⟩] at h1
  have h2 := qx_kd_obj (k := 8) (by decide) hk
  exact Rs_call c312_14 h1 (by rw [show qx_args 311 [.ref t, .int z0] = decide (qx_sh t = some (.inl 8)) from rfl]; exact decide_eq_true h2)
theorem c312_17 : qx_code 312 17 = some (17, .aload_n 0, 18, 0, 0, 0) := by decide +kernel
theorem s312_17 {L : Nat} {xs : Nat → Int32} {d x : Nat} {M : qxM} {st : List Value} {a1 : Option Value} {z : Nat} : Rs L xs (d) 312 17 [some (.ref z), a1] st M x = Rs L xs (d) 312 18 [some (.ref z), a1] (.ref z :: st) M x := Rs_next c312_17 rfl
theorem c312_18 : qx_code 312 18 = some (18, .bipush 48, 20, 0, 0, 0) := by decide +kernel
theorem s312_18 {L : Nat} {xs : Nat → Int32} {d x : Nat} {M : qxM} {st : List Value} {ls : qxL} : Rs L xs (d) 312 18 ls st M x = Rs L xs (d) 312 20 ls (.int (nI 48) :: st) M x := Rs_next c312_18 rfl
theorem c312_20 : qx_code 312 20 = some (20, .iload_n 1, 21, 0, 0, 0) := by decide +kernel
theorem s312_20 {L : Nat} {xs : Nat → Int32} {d x : Nat} {M : qxM} {st : List Value} {a0 : Option Value} {z : Int32} : Rs L xs (d) 312 20 [a0, some (.int z)] st M x = Rs L xs (d) 312 21 [a0, some (.int z)] (.int z :: st) M x := Rs_next c312_20 rfl
theorem c312_21 : qx_code 312 21 = some (21, .bipush 10, 23, 0, 0, 0) := by decide +kernel
theorem s312_21 {L : Nat} {xs : Nat → Int32} {d x : Nat} {M : qxM} {st : List Value} {ls : qxL} : Rs L xs (d) 312 21 ls st M x = Rs L xs (d) 312 23 ls (.int (nI 10) :: st) M x := Rs_next c312_21 rfl
theorem c312_23 : qx_code 312 23 = some (23, .irem, 24, 0, 0, 0) := by decide +kernel
theorem s312_23 {L : Nat} {xs : Nat → Int32} {d x : Nat} {M : qxM} {st : List Value} {ls : qxL} {z y : Int32} (h : ¬ y = 0) : Rs L xs (d) 312 23 ls (.int y :: .int z :: st) M x = Rs L xs (d) 312 24 ls (.int (z - z / y * y) :: st) M x := Rs_unless h c312_23 rfl
theorem c312_24 : qx_code 312 24 = some (24, .iadd, 25, 0, 0, 0) := by decide +kernel
theorem s312_24 {L : Nat} {xs : Nat → Int32} {d x : Nat} {M : qxM} {st : List Value} {ls : qxL} {z y : Int32} : Rs L xs (d) 312 24 ls (.int y :: .int z :: st) M x = Rs L xs (d) 312 25 ls (.int (z + y) :: st) M x := Rs_next c312_24 rfl
theorem c312_25 : qx_code 312 25 = some (25, .invokevirtual 372, 28, 311, 2, 2149) := by decide +kernel
theorem s312_25 {L : Nat} {xs : Nat → Int32} {d x : Nat} {M : qxM} {st : List Value} {ls : qxL} {t : Nat} {z0 : Int32} (hk : qx_kd t = 18) (hs : st.length ≤ 4) : Rs L xs (d + 1) 312 25 ls (.int z0 :: .ref t :: st) M x = (Rs L xs d 311 0 [some (.ref t), some (.int z0)] [] M 0).bind (qx_kn L xs (d + 1) 312 25 28 311 ls st x) := by
  have h1 : qx_act L xs (qx_rt 312) (25, .invokevirtual 372, 28, 311, 2, 2149) ls (.int z0 :: .ref t :: st) M = if 2 ≤ (.int z0 :: .ref t :: st).length ∧ st.length ≤ 4 then some (.inr (.inr (.inr (311, [.ref t, .int z0], st)))) else none := rfl
  rw [if_pos ⟨by simp [List.length_cons]; try omega, hs⟩] at h1
  have h2 := qx_kd_obj (k := 8) (by decide) hk
  exact Rs_call c312_25 h1 (by rw [show qx_args 311 [.ref t, .int z0] = decide (qx_sh t = some (.inl 8)) from rfl]; exact decide_eq_true h2)
theorem c312_28 : qx_code 312 28 = some (28, .return_, 29, 0, 0, 0) := by decide +kernel
theorem s312_28 {L : Nat} {xs : Nat → Int32} {d x : Nat} {M : qxM} {ls : qxL} : Rs L xs (d) 312 28 ls [] M x = some (.inl none, M, x) := Rs_ret c312_28 rfl
theorem c313_0 : qx_code 313 0 = some (0, .aload_n 0, 1, 0, 0, 0) := by decide +kernel
theorem s313_0 {L : Nat} {xs : Nat → Int32} {d x : Nat} {M : qxM} {st : List Value} {a1 : Option Value} {z : Nat} : Rs L xs (d) 313 0 [some (.ref z), a1] st M x = Rs L xs (d) 313 1 [some (.ref z), a1] (.ref z :: st) M x := Rs_next c313_0 rfl
theorem c313_1 : qx_code 313 1 = some (1, .invokevirtual 306, 4, 263, 1, 1882) := by decide +kernel
theorem s313_1 {L : Nat} {xs : Nat → Int32} {d x : Nat} {M : qxM} {st : List Value} {ls : qxL} {t : Nat} (hk : qx_kd t = 18) (hs : st.length ≤ 4) : Rs L xs (d + 1) 313 1 ls (.ref t :: st) M x = (Rs L xs d 263 0 [some (.ref t)] [] M 0).bind (qx_kn L xs (d + 1) 313 1 4 263 ls st x) := by
  have h1 : qx_act L xs (qx_rt 313) (1, .invokevirtual 306, 4, 263, 1, 1882) ls (.ref t :: st) M = if 1 ≤ (.ref t :: st).length ∧ st.length ≤ 4 then some (.inr (.inr (.inr (263, [.ref t], st)))) else none := rfl
  rw [if_pos ⟨by simp [List.length_cons]; try omega, hs⟩] at h1
  have h2 := qx_kd_obj (k := 8) (by decide) hk
  exact Rs_call c313_1 h1 (by rw [show qx_args 263 [.ref t] = decide (qx_sh t = some (.inl 8)) from rfl]; exact decide_eq_true h2)
theorem c313_4 : qx_code 313 4 = some (4, .ifCond .ne 5, 7, 9, 0, 0) := by decide +kernel
theorem s313_4 {L : Nat} {xs : Nat → Int32} {d x : Nat} {M : qxM} {st : List Value} {ls : qxL} {z : Int32} : Rs L xs (d) 313 4 ls (.int z :: st) M x = if z = 0 then Rs L xs (d) 313 7 ls st M x else Rs L xs (d) 313 9 ls st M x := Rs_ite c313_4 rfl
theorem c313_7 : qx_code 313 7 = some (7, .iconst 0, 8, 0, 0, 0) := by decide +kernel
theorem s313_7 {L : Nat} {xs : Nat → Int32} {d x : Nat} {M : qxM} {st : List Value} {ls : qxL} : Rs L xs (d) 313 7 ls st M x = Rs L xs (d) 313 8 ls (.int (nI 0) :: st) M x := Rs_next c313_7 rfl
theorem c313_8 : qx_code 313 8 = some (8, .ireturn, 9, 0, 0, 0) := by decide +kernel
theorem s313_8 {L : Nat} {xs : Nat → Int32} {d x : Nat} {M : qxM} {ls : qxL} {z : Int32} : Rs L xs (d) 313 8 ls [.int z] M x = some (.inl (some (.int z)), M, x) := Rs_ret c313_8 rfl
theorem c313_9 : qx_code 313 9 = some (9, .aload_n 0, 10, 0, 0, 0) := by decide +kernel
theorem s313_9 {L : Nat} {xs : Nat → Int32} {d x : Nat} {M : qxM} {st : List Value} {a1 : Option Value} {z : Nat} : Rs L xs (d) 313 9 [some (.ref z), a1] st M x = Rs L xs (d) 313 10 [some (.ref z), a1] (.ref z :: st) M x := Rs_next c313_9 rfl
theorem c313_10 : qx_code 313 10 = some (10, .iconst 0, 11, 0, 0, 0) := by decide +kernel
theorem s313_10 {L : Nat} {xs : Nat → Int32} {d x : Nat} {M : qxM} {st : List Value} {ls : qxL} : Rs L xs (d) 313 10 ls st M x = Rs L xs (d) 313 11 ls (.int (nI 0) :: st) M x := Rs_next c313_10 rfl
theorem c313_11 : qx_code 313 11 = some (11, .putfield 369, 14, 8, 21, 1566) := by decide +kernel
theorem s313_11 {L : Nat} {xs : Nat → Int32} {d x : Nat} {M : qxM} {st : List Value} {ls : qxL} {t : Nat} {z : Int32} (hk : qx_kd t = 18) : Rs L xs (d) 313 11 ls (.int z :: .ref t :: st) M x = Rs L xs (d) 313 14 ls st (qx_up M t 21 z) x := Rs_when (cnd := qx_sh t = some (.inl 8) ∧ qx_fo 8 21 = none ∧ (qx_bf 8 21 = true → z = 0 ∨ z = 1)) ⟨qx_kd_obj (k := 8) (by decide) hk, rfl, fun h => nomatch h⟩ c313_11 rfl
theorem c313_14 : qx_code 313 14 = some (14, .iconst 0, 15, 0, 0, 0) := by decide +kernel
theorem s313_14 {L : Nat} {xs : Nat → Int32} {d x : Nat} {M : qxM} {st : List Value} {ls : qxL} : Rs L xs (d) 313 14 ls st M x = Rs L xs (d) 313 15 ls (.int (nI 0) :: st) M x := Rs_next c313_14 rfl
theorem c313_15 : qx_code 313 15 = some (15, .istore_n 1, 16, 0, 0, 0) := by decide +kernel
theorem s313_15i {L : Nat} {xs : Nat → Int32} {d x : Nat} {M : qxM} {st : List Value} {a1 : Option Value} {z : Int32} {y : Int32} : Rs L xs (d) 313 15 [some (.int y), a1] (.int z :: st) M x = Rs L xs (d) 313 16 [some (.int y), some (.int z)] st M x := Rs_next c313_15 rfl
theorem s313_15r {L : Nat} {xs : Nat → Int32} {d x : Nat} {M : qxM} {st : List Value} {a1 : Option Value} {z : Int32} {y : Nat} : Rs L xs (d) 313 15 [some (.ref y), a1] (.int z :: st) M x = Rs L xs (d) 313 16 [some (.ref y), some (.int z)] st M x := Rs_next c313_15 rfl
theorem s313_15n {L : Nat} {xs : Nat → Int32} {d x : Nat} {M : qxM} {st : List Value} {a1 : Option Value} {z : Int32} : Rs L xs (d) 313 15 [none, a1] (.int z :: st) M x = Rs L xs (d) 313 16 [none, some (.int z)] st M x := Rs_next c313_15 rfl
theorem c313_16 : qx_code 313 16 = some (16, .iload_n 1, 17, 0, 0, 0) := by decide +kernel
theorem s313_16 {L : Nat} {xs : Nat → Int32} {d x : Nat} {M : qxM} {st : List Value} {a0 : Option Value} {z : Int32} : Rs L xs (d) 313 16 [a0, some (.int z)] st M x = Rs L xs (d) 313 17 [a0, some (.int z)] (.int z :: st) M x := Rs_next c313_16 rfl
theorem c313_17 : qx_code 313 17 = some (17, .aload_n 0, 18, 0, 0, 0) := by decide +kernel
theorem s313_17 {L : Nat} {xs : Nat → Int32} {d x : Nat} {M : qxM} {st : List Value} {a1 : Option Value} {z : Nat} : Rs L xs (d) 313 17 [some (.ref z), a1] st M x = Rs L xs (d) 313 18 [some (.ref z), a1] (.ref z :: st) M x := Rs_next c313_17 rfl
theorem c313_18 : qx_code 313 18 = some (18, .getfield 9, 21, 8, 1, 1546) := by decide +kernel
theorem s313_18 {L : Nat} {xs : Nat → Int32} {d x : Nat} {M : qxM} {st : List Value} {ls : qxL} {t : Nat} (hk : qx_kd t = 18) : Rs L xs (d) 313 18 ls (.ref t :: st) M x = Rs L xs (d) 313 21 ls (.ref (t + 1) :: st) M x := Rs_when (qx_kd_obj (k := 8) (by decide) hk) c313_18 rfl
theorem c313_21 : qx_code 313 21 = some (21, .iconst 0, 22, 0, 0, 0) := by decide +kernel
theorem s313_21 {L : Nat} {xs : Nat → Int32} {d x : Nat} {M : qxM} {st : List Value} {ls : qxL} : Rs L xs (d) 313 21 ls st M x = Rs L xs (d) 313 22 ls (.int (nI 0) :: st) M x := Rs_next c313_21 rfl
theorem c313_22 : qx_code 313 22 = some (22, .iaload, 23, 0, 0, 0) := by decide +kernel
theorem s313_22 {L : Nat} {xs : Nat → Int32} {d x : Nat} {M : qxM} {st : List Value} {ls : qxL} {t : Nat} {j : Int32} (hk : qx_kd t = 0) (hj : qx_ib j (qx_ln t) = true) : Rs L xs (d) 313 22 ls (.int j :: .ref t :: st) M x = Rs L xs (d) 313 23 ls (.int (M.1 t j.toNatClampNeg) :: st) M x := by
  have h1 := qx_kd_row (k := 0) (by decide) hk
  exact Rs_unless (qx_ib_not hj) c313_22 (by unfold qx_act; dsimp only; rw [h1]; rfl)
theorem c313_23 : qx_code 313 23 = some (23, .if_icmp .ge 54, 26, 77, 0, 0) := by decide +kernel
theorem s313_23 {L : Nat} {xs : Nat → Int32} {d x : Nat} {M : qxM} {st : List Value} {ls : qxL} {z y : Int32} : Rs L xs (d) 313 23 ls (.int y :: .int z :: st) M x = if y ≤ z then Rs L xs (d) 313 77 ls st M x else Rs L xs (d) 313 26 ls st M x := Rs_ite c313_23 rfl
theorem c313_26 : qx_code 313 26 = some (26, .aload_n 0, 27, 0, 0, 0) := by decide +kernel
theorem s313_26 {L : Nat} {xs : Nat → Int32} {d x : Nat} {M : qxM} {st : List Value} {a1 : Option Value} {z : Nat} : Rs L xs (d) 313 26 [some (.ref z), a1] st M x = Rs L xs (d) 313 27 [some (.ref z), a1] (.ref z :: st) M x := Rs_next c313_26 rfl
theorem c313_27 : qx_code 313 27 = some (27, .iload_n 1, 28, 0, 0, 0) := by decide +kernel
theorem s313_27 {L : Nat} {xs : Nat → Int32} {d x : Nat} {M : qxM} {st : List Value} {a0 : Option Value} {z : Int32} : Rs L xs (d) 313 27 [a0, some (.int z)] st M x = Rs L xs (d) 313 28 [a0, some (.int z)] (.int z :: st) M x := Rs_next c313_27 rfl
theorem c313_28 : qx_code 313 28 = some (28, .invokevirtual 132, 31, 213, 2, 1737) := by decide +kernel
theorem s313_28 {L : Nat} {xs : Nat → Int32} {d x : Nat} {M : qxM} {st : List Value} {ls : qxL} {t : Nat} {z0 : Int32} (hk : qx_kd t = 18) (hs : st.length ≤ 4) : Rs L xs (d + 1) 313 28 ls (.int z0 :: .ref t :: st) M x = (Rs L xs d 213 0 [some (.ref t), some (.int z0)] [] M 0).bind (qx_kn L xs (d + 1) 313 28 31 213 ls st x) := by
  have h1 : qx_act L xs (qx_rt 313) (28, .invokevirtual 132, 31, 213, 2, 1737) ls (.int z0 :: .ref t :: st) M = if 2 ≤ (.int z0 :: .ref t :: st).length ∧ st.length ≤ 4 then some (.inr (.inr (.inr (213, [.ref t, .int z0], st)))) else none := rfl
  rw [if_pos ⟨by simp [List.length_cons]; try omega, hs⟩] at h1
  have h2 := qx_kd_obj (k := 8) (by decide) hk
  exact Rs_call c313_28 h1 (by rw [show qx_args 213 [.ref t, .int z0] = decide (qx_sh t = some (.inl 8)) from rfl]; exact decide_eq_true h2)
theorem c313_31 : qx_code 313 31 = some (31, .iload_n 1, 32, 0, 0, 0) := by decide +kernel
theorem s313_31 {L : Nat} {xs : Nat → Int32} {d x : Nat} {M : qxM} {st : List Value} {a0 : Option Value} {z : Int32} : Rs L xs (d) 313 31 [a0, some (.int z)] st M x = Rs L xs (d) 313 32 [a0, some (.int z)] (.int z :: st) M x := Rs_next c313_31 rfl
theorem c313_32 : qx_code 313 32 = some (32, .if_icmp .ge 6, 35, 38, 0, 0) := by decide +kernel
theorem s313_32 {L : Nat} {xs : Nat → Int32} {d x : Nat} {M : qxM} {st : List Value} {ls : qxL} {z y : Int32} : Rs L xs (d) 313 32 ls (.int y :: .int z :: st) M x = if y ≤ z then Rs L xs (d) 313 38 ls st M x else Rs L xs (d) 313 35 ls st M x := Rs_ite c313_32 rfl
theorem c313_35 : qx_code 313 35 = some (35, .goto 36, 38, 71, 0, 0) := by decide +kernel
theorem s313_35 {L : Nat} {xs : Nat → Int32} {d x : Nat} {M : qxM} {st : List Value} {ls : qxL} : Rs L xs (d) 313 35 ls st M x = Rs L xs (d) 313 71 ls st M x := Rs_next c313_35 rfl
theorem c313_38 : qx_code 313 38 = some (38, .aload_n 0, 39, 0, 0, 0) := by decide +kernel
theorem s313_38 {L : Nat} {xs : Nat → Int32} {d x : Nat} {M : qxM} {st : List Value} {a1 : Option Value} {z : Nat} : Rs L xs (d) 313 38 [some (.ref z), a1] st M x = Rs L xs (d) 313 39 [some (.ref z), a1] (.ref z :: st) M x := Rs_next c313_38 rfl
theorem c313_39 : qx_code 313 39 = some (39, .getfield 369, 42, 8, 21, 1566) := by decide +kernel
theorem s313_39 {L : Nat} {xs : Nat → Int32} {d x : Nat} {M : qxM} {st : List Value} {ls : qxL} {t : Nat} (hk : qx_kd t = 18) : Rs L xs (d) 313 39 ls (.ref t :: st) M x = Rs L xs (d) 313 42 ls (.int (M.1 t 21) :: st) M x := Rs_when (qx_kd_obj (k := 8) (by decide) hk) c313_39 rfl
theorem c313_42 : qx_code 313 42 = some (42, .ifCond .le 9, 45, 51, 0, 0) := by decide +kernel
theorem s313_42 {L : Nat} {xs : Nat → Int32} {d x : Nat} {M : qxM} {st : List Value} {ls : qxL} {z : Int32} : Rs L xs (d) 313 42 ls (.int z :: st) M x = if z ≤ 0 then Rs L xs (d) 313 51 ls st M x else Rs L xs (d) 313 45 ls st M x := Rs_ite c313_42 rfl
theorem c313_45 : qx_code 313 45 = some (45, .aload_n 0, 46, 0, 0, 0) := by decide +kernel
theorem s313_45 {L : Nat} {xs : Nat → Int32} {d x : Nat} {M : qxM} {st : List Value} {a1 : Option Value} {z : Nat} : Rs L xs (d) 313 45 [some (.ref z), a1] st M x = Rs L xs (d) 313 46 [some (.ref z), a1] (.ref z :: st) M x := Rs_next c313_45 rfl
theorem c313_46 : qx_code 313 46 = some (46, .bipush 32, 48, 0, 0, 0) := by decide +kernel
theorem s313_46 {L : Nat} {xs : Nat → Int32} {d x : Nat} {M : qxM} {st : List Value} {ls : qxL} : Rs L xs (d) 313 46 ls st M x = Rs L xs (d) 313 48 ls (.int (nI 32) :: st) M x := Rs_next c313_46 rfl
theorem c313_48 : qx_code 313 48 = some (48, .invokevirtual 372, 51, 311, 2, 2149) := by decide +kernel
theorem s313_48 {L : Nat} {xs : Nat → Int32} {d x : Nat} {M : qxM} {st : List Value} {ls : qxL} {t : Nat} {z0 : Int32} (hk : qx_kd t = 18) (hs : st.length ≤ 4) : Rs L xs (d + 1) 313 48 ls (.int z0 :: .ref t :: st) M x = (Rs L xs d 311 0 [some (.ref t), some (.int z0)] [] M 0).bind (qx_kn L xs (d + 1) 313 48 51 311 ls st x) := by
  have h1 : qx_act L xs (qx_rt 313) (48, .invokevirtual 372, 51, 311, 2, 2149) ls (.int z0 :: .ref t :: st) M = if 2 ≤ (.int z0 :: .ref t :: st).length ∧ st.length ≤ 4 then some (.inr (.inr (.inr (311, [.ref t, .int z0], st)))) else none := rfl
  rw [if_pos ⟨by simp [List.length_cons]; try omega, hs⟩] at h1
  have h2 := qx_kd_obj (k := 8) (by decide) hk
  exact Rs_call c313_48 h1 (by rw [show qx_args 311 [.ref t, .int z0] = decide (qx_sh t = some (.inl 8)) from rfl]; exact decide_eq_true h2)
theorem c313_51 : qx_code 313 51 = some (51, .aload_n 0, 52, 0, 0, 0) := by decide +kernel
theorem s313_51 {L : Nat} {xs : Nat → Int32} {d x : Nat} {M : qxM} {st : List Value} {a1 : Option Value} {z : Nat} : Rs L xs (d) 313 51 [some (.ref z), a1] st M x = Rs L xs (d) 313 52 [some (.ref z), a1] (.ref z :: st) M x := Rs_next c313_51 rfl
theorem c313_52 : qx_code 313 52 = some (52, .iload_n 1, 53, 0, 0, 0) := by decide +kernel
theorem s313_52 {L : Nat} {xs : Nat → Int32} {d x : Nat} {M : qxM} {st : List Value} {a0 : Option Value} {z : Int32} : Rs L xs (d) 313 52 [a0, some (.int z)] st M x = Rs L xs (d) 313 53 [a0, some (.int z)] (.int z :: st) M x := Rs_next c313_52 rfl
theorem c313_53 : qx_code 313 53 = some (53, .invokevirtual 375, 56, 312, 2, 2153) := by decide +kernel
theorem s313_53 {L : Nat} {xs : Nat → Int32} {d x : Nat} {M : qxM} {st : List Value} {ls : qxL} {t : Nat} {z0 : Int32} (hk : qx_kd t = 18) (hs : st.length ≤ 4) : Rs L xs (d + 1) 313 53 ls (.int z0 :: .ref t :: st) M x = (Rs L xs d 312 0 [some (.ref t), some (.int z0)] [] M 0).bind (qx_kn L xs (d + 1) 313 53 56 312 ls st x) := by
  have h1 : qx_act L xs (qx_rt 313) (53, .invokevirtual 375, 56, 312, 2, 2153) ls (.int z0 :: .ref t :: st) M = if 2 ≤ (.int z0 :: .ref t :: st).length ∧ st.length ≤ 4 then some (.inr (.inr (.inr (312, [.ref t, .int z0], st)))) else none := rfl
  rw [if_pos ⟨by simp [List.length_cons]; try omega, hs⟩] at h1
  have h2 := qx_kd_obj (k := 8) (by decide) hk
  exact Rs_call c313_53 h1 (by rw [show qx_args 312 [.ref t, .int z0] = decide (qx_sh t = some (.inl 8)) from rfl]; exact decide_eq_true h2)
theorem c313_56 : qx_code 313 56 = some (56, .aload_n 0, 57, 0, 0, 0) := by decide +kernel
theorem s313_56 {L : Nat} {xs : Nat → Int32} {d x : Nat} {M : qxM} {st : List Value} {a1 : Option Value} {z : Nat} : Rs L xs (d) 313 56 [some (.ref z), a1] st M x = Rs L xs (d) 313 57 [some (.ref z), a1] (.ref z :: st) M x := Rs_next c313_56 rfl
theorem c313_57 : qx_code 313 57 = some (57, .bipush 45, 59, 0, 0, 0) := by decide +kernel
theorem s313_57 {L : Nat} {xs : Nat → Int32} {d x : Nat} {M : qxM} {st : List Value} {ls : qxL} : Rs L xs (d) 313 57 ls st M x = Rs L xs (d) 313 59 ls (.int (nI 45) :: st) M x := Rs_next c313_57 rfl
theorem c313_59 : qx_code 313 59 = some (59, .invokevirtual 372, 62, 311, 2, 2149) := by decide +kernel
theorem s313_59 {L : Nat} {xs : Nat → Int32} {d x : Nat} {M : qxM} {st : List Value} {ls : qxL} {t : Nat} {z0 : Int32} (hk : qx_kd t = 18) (hs : st.length ≤ 4) : Rs L xs (d + 1) 313 59 ls (.int z0 :: .ref t :: st) M x = (Rs L xs d 311 0 [some (.ref t), some (.int z0)] [] M 0).bind (qx_kn L xs (d + 1) 313 59 62 311 ls st x) := by
  have h1 : qx_act L xs (qx_rt 313) (59, .invokevirtual 372, 62, 311, 2, 2149) ls (.int z0 :: .ref t :: st) M = if 2 ≤ (.int z0 :: .ref t :: st).length ∧ st.length ≤ 4 then some (.inr (.inr (.inr (311, [.ref t, .int z0], st)))) else none := rfl
  rw [if_pos ⟨by simp [List.length_cons]; try omega, hs⟩] at h1
  have h2 := qx_kd_obj (k := 8) (by decide) hk
  exact Rs_call c313_59 h1 (by rw [show qx_args 311 [.ref t, .int z0] = decide (qx_sh t = some (.inl 8)) from rfl]; exact decide_eq_true h2)
theorem c313_62 : qx_code 313 62 = some (62, .aload_n 0, 63, 0, 0, 0) := by decide +kernel
theorem s313_62 {L : Nat} {xs : Nat → Int32} {d x : Nat} {M : qxM} {st : List Value} {a1 : Option Value} {z : Nat} : Rs L xs (d) 313 62 [some (.ref z), a1] st M x = Rs L xs (d) 313 63 [some (.ref z), a1] (.ref z :: st) M x := Rs_next c313_62 rfl
theorem c313_63 : qx_code 313 63 = some (63, .aload_n 0, 64, 0, 0, 0) := by decide +kernel
theorem s313_63 {L : Nat} {xs : Nat → Int32} {d x : Nat} {M : qxM} {st : List Value} {a1 : Option Value} {z : Nat} : Rs L xs (d) 313 63 [some (.ref z), a1] st M x = Rs L xs (d) 313 64 [some (.ref z), a1] (.ref z :: st) M x := Rs_next c313_63 rfl
theorem c313_64 : qx_code 313 64 = some (64, .iload_n 1, 65, 0, 0, 0) := by decide +kernel
theorem s313_64 {L : Nat} {xs : Nat → Int32} {d x : Nat} {M : qxM} {st : List Value} {a0 : Option Value} {z : Int32} : Rs L xs (d) 313 64 [a0, some (.int z)] st M x = Rs L xs (d) 313 65 [a0, some (.int z)] (.int z :: st) M x := Rs_next c313_64 rfl
theorem c313_65 : qx_code 313 65 = some (65, .invokevirtual 132, 68, 213, 2, 1737) := by decide +kernel
theorem s313_65 {L : Nat} {xs : Nat → Int32} {d x : Nat} {M : qxM} {st : List Value} {ls : qxL} {t : Nat} {z0 : Int32} (hk : qx_kd t = 18) (hs : st.length ≤ 4) : Rs L xs (d + 1) 313 65 ls (.int z0 :: .ref t :: st) M x = (Rs L xs d 213 0 [some (.ref t), some (.int z0)] [] M 0).bind (qx_kn L xs (d + 1) 313 65 68 213 ls st x) := by
  have h1 : qx_act L xs (qx_rt 313) (65, .invokevirtual 132, 68, 213, 2, 1737) ls (.int z0 :: .ref t :: st) M = if 2 ≤ (.int z0 :: .ref t :: st).length ∧ st.length ≤ 4 then some (.inr (.inr (.inr (213, [.ref t, .int z0], st)))) else none := rfl
  rw [if_pos ⟨by simp [List.length_cons]; try omega, hs⟩] at h1
  have h2 := qx_kd_obj (k := 8) (by decide) hk
  exact Rs_call c313_65 h1 (by rw [show qx_args 213 [.ref t, .int z0] = decide (qx_sh t = some (.inl 8)) from rfl]; exact decide_eq_true h2)
theorem c313_68 : qx_code 313 68 = some (68, .invokevirtual 375, 71, 312, 2, 2153) := by decide +kernel
theorem s313_68 {L : Nat} {xs : Nat → Int32} {d x : Nat} {M : qxM} {st : List Value} {ls : qxL} {t : Nat} {z0 : Int32} (hk : qx_kd t = 18) (hs : st.length ≤ 4) : Rs L xs (d + 1) 313 68 ls (.int z0 :: .ref t :: st) M x = (Rs L xs d 312 0 [some (.ref t), some (.int z0)] [] M 0).bind (qx_kn L xs (d + 1) 313 68 71 312 ls st x) := by
  have h1 : qx_act L xs (qx_rt 313) (68, .invokevirtual 375, 71, 312, 2, 2153) ls (.int z0 :: .ref t :: st) M = if 2 ≤ (.int z0 :: .ref t :: st).length ∧ st.length ≤ 4 then some (.inr (.inr (.inr (312, [.ref t, .int z0], st)))) else none := rfl
  rw [if_pos ⟨by simp [List.length_cons]; try omega, hs⟩] at h1
  have h2 := qx_kd_obj (k := 8) (by decide) hk
  exact Rs_call c313_68 h1 (by rw [show qx_args 312 [.ref t, .int z0] = decide (qx_sh t = some (.inl 8)) from rfl]; exact decide_eq_true h2)
theorem c313_71 : qx_code 313 71 = some (71, .iinc 1 1, 74, 0, 0, 0) := by decide +kernel
theorem s313_71i {L : Nat} {xs : Nat → Int32} {d x : Nat} {M : qxM} {st : List Value} {z : Int32} {y : Int32} : Rs L xs (d) 313 71 [some (.int y), some (.int z)] st M x = Rs L xs (d) 313 74 [some (.int y), some (.int (z + (nI 1)))] st M x := Rs_next c313_71 rfl
theorem s313_71r {L : Nat} {xs : Nat → Int32} {d x : Nat} {M : qxM} {st : List Value} {z : Int32} {y : Nat} : Rs L xs (d) 313 71 [some (.ref y), some (.int z)] st M x = Rs L xs (d) 313 74 [some (.ref y), some (.int (z + (nI 1)))] st M x := Rs_next c313_71 rfl
theorem s313_71n {L : Nat} {xs : Nat → Int32} {d x : Nat} {M : qxM} {st : List Value} {z : Int32} : Rs L xs (d) 313 71 [none, some (.int z)] st M x = Rs L xs (d) 313 74 [none, some (.int (z + (nI 1)))] st M x := Rs_next c313_71 rfl
theorem c313_74 : qx_code 313 74 = some (74, .goto (-58), 77, 16, 0, 0) := by decide +kernel
theorem s313_74 {L : Nat} {xs : Nat → Int32} {d x : Nat} {M : qxM} {st : List Value} {ls : qxL} : Rs L xs (d) 313 74 ls st M x = Rs L xs (d) 313 16 ls st M x := Rs_next c313_74 rfl
theorem c313_77 : qx_code 313 77 = some (77, .aload_n 0, 78, 0, 0, 0) := by decide +kernel
theorem s313_77 {L : Nat} {xs : Nat → Int32} {d x : Nat} {M : qxM} {st : List Value} {a1 : Option Value} {z : Nat} : Rs L xs (d) 313 77 [some (.ref z), a1] st M x = Rs L xs (d) 313 78 [some (.ref z), a1] (.ref z :: st) M x := Rs_next c313_77 rfl
theorem c313_78 : qx_code 313 78 = some (78, .getfield 369, 81, 8, 21, 1566) := by decide +kernel
theorem s313_78 {L : Nat} {xs : Nat → Int32} {d x : Nat} {M : qxM} {st : List Value} {ls : qxL} {t : Nat} (hk : qx_kd t = 18) : Rs L xs (d) 313 78 ls (.ref t :: st) M x = Rs L xs (d) 313 81 ls (.int (M.1 t 21) :: st) M x := Rs_when (qx_kd_obj (k := 8) (by decide) hk) c313_78 rfl
theorem c313_81 : qx_code 313 81 = some (81, .ifCond .ne 9, 84, 90, 0, 0) := by decide +kernel
theorem s313_81 {L : Nat} {xs : Nat → Int32} {d x : Nat} {M : qxM} {st : List Value} {ls : qxL} {z : Int32} : Rs L xs (d) 313 81 ls (.int z :: st) M x = if z = 0 then Rs L xs (d) 313 84 ls st M x else Rs L xs (d) 313 90 ls st M x := Rs_ite c313_81 rfl
theorem c313_84 : qx_code 313 84 = some (84, .aload_n 0, 85, 0, 0, 0) := by decide +kernel
theorem s313_84 {L : Nat} {xs : Nat → Int32} {d x : Nat} {M : qxM} {st : List Value} {a1 : Option Value} {z : Nat} : Rs L xs (d) 313 84 [some (.ref z), a1] st M x = Rs L xs (d) 313 85 [some (.ref z), a1] (.ref z :: st) M x := Rs_next c313_84 rfl
theorem c313_85 : qx_code 313 85 = some (85, .bipush 46, 87, 0, 0, 0) := by decide +kernel
theorem s313_85 {L : Nat} {xs : Nat → Int32} {d x : Nat} {M : qxM} {st : List Value} {ls : qxL} : Rs L xs (d) 313 85 ls st M x = Rs L xs (d) 313 87 ls (.int (nI 46) :: st) M x := Rs_next c313_85 rfl
theorem c313_87 : qx_code 313 87 = some (87, .invokevirtual 372, 90, 311, 2, 2149) := by decide +kernel
theorem s313_87 {L : Nat} {xs : Nat → Int32} {d x : Nat} {M : qxM} {st : List Value} {ls : qxL} {t : Nat} {z0 : Int32} (hk : qx_kd t = 18) (hs : st.length ≤ 4) : Rs L xs (d + 1) 313 87 ls (.int z0 :: .ref t :: st) M x = (Rs L xs d 311 0 [some (.ref t), some (.int z0)] [] M 0).bind (qx_kn L xs (d + 1) 313 87 90 311 ls st x) := by
  have h1 : qx_act L xs (qx_rt 313) (87, .invokevirtual 372, 90, 311, 2, 2149) ls (.int z0 :: .ref t :: st) M = if 2 ≤ (.int z0 :: .ref t :: st).length ∧ st.length ≤ 4 then some (.inr (.inr (.inr (311, [.ref t, .int z0], st)))) else none := rfl
  rw [if_pos ⟨by simp [List.length_cons]; try omega, hs⟩] at h1
  have h2 := qx_kd_obj (k := 8) (by decide) hk
  exact Rs_call c313_87 h1 (by rw [show qx_args 311 [.ref t, .int z0] = decide (qx_sh t = some (.inl 8)) from rfl]; exact decide_eq_true h2)
theorem c313_90 : qx_code 313 90 = some (90, .aload_n 0, 91, 0, 0, 0) := by decide +kernel
theorem s313_90 {L : Nat} {xs : Nat → Int32} {d x : Nat} {M : qxM} {st : List Value} {a1 : Option Value} {z : Nat} : Rs L xs (d) 313 90 [some (.ref z), a1] st M x = Rs L xs (d) 313 91 [some (.ref z), a1] (.ref z :: st) M x := Rs_next c313_90 rfl
theorem c313_91 : qx_code 313 91 = some (91, .getfield 369, 94, 8, 21, 1566) := by decide +kernel
theorem s313_91 {L : Nat} {xs : Nat → Int32} {d x : Nat} {M : qxM} {st : List Value} {ls : qxL} {t : Nat} (hk : qx_kd t = 18) : Rs L xs (d) 313 91 ls (.ref t :: st) M x = Rs L xs (d) 313 94 ls (.int (M.1 t 21) :: st) M x := Rs_when (qx_kd_obj (k := 8) (by decide) hk) c313_91 rfl
theorem c313_94 : qx_code 313 94 = some (94, .ireturn, 95, 0, 0, 0) := by decide +kernel
theorem s313_94 {L : Nat} {xs : Nat → Int32} {d x : Nat} {M : qxM} {ls : qxL} {z : Int32} : Rs L xs (d) 313 94 ls [.int z] M x = some (.inl (some (.int z)), M, x) := Rs_ret c313_94 rfl
theorem c314_0 : qx_code 314 0 = some (0, .aload_n 0, 1, 0, 0, 0) := by decide +kernel
theorem s314_0 {L : Nat} {xs : Nat → Int32} {d x : Nat} {M : qxM} {st : List Value} {a1 a2 a3 : Option Value} {z : Nat} : Rs L xs (d) 314 0 [some (.ref z), a1, a2, a3] st M x = Rs L xs (d) 314 1 [some (.ref z), a1, a2, a3] (.ref z :: st) M x := Rs_next c314_0 rfl
theorem c314_1 : qx_code 314 1 = some (1, .getfield 369, 4, 8, 21, 1566) := by decide +kernel
theorem s314_1 {L : Nat} {xs : Nat → Int32} {d x : Nat} {M : qxM} {st : List Value} {ls : qxL} {t : Nat} (hk : qx_kd t = 18) : Rs L xs (d) 314 1 ls (.ref t :: st) M x = Rs L xs (d) 314 4 ls (.int (M.1 t 21) :: st) M x := Rs_when (qx_kd_obj (k := 8) (by decide) hk) c314_1 rfl
theorem c314_4 : qx_code 314 4 = some (4, .ifCond .le 9, 7, 13, 0, 0) := by decide +kernel
theorem s314_4 {L : Nat} {xs : Nat → Int32} {d x : Nat} {M : qxM} {st : List Value} {ls : qxL} {z : Int32} : Rs L xs (d) 314 4 ls (.int z :: st) M x = if z ≤ 0 then Rs L xs (d) 314 13 ls st M x else Rs L xs (d) 314 7 ls st M x := Rs_ite c314_4 rfl
theorem c314_7 : qx_code 314 7 = some (7, .aload_n 0, 8, 0, 0, 0) := by decide +kernel
theorem s314_7 {L : Nat} {xs : Nat → Int32} {d x : Nat} {M : qxM} {st : List Value} {a1 a2 a3 : Option Value} {z : Nat} : Rs L xs (d) 314 7 [some (.ref z), a1, a2, a3] st M x = Rs L xs (d) 314 8 [some (.ref z), a1, a2, a3] (.ref z :: st) M x := Rs_next c314_7 rfl
theorem c314_8 : qx_code 314 8 = some (8, .bipush 32, 10, 0, 0, 0) := by decide +kernel
theorem s314_8 {L : Nat} {xs : Nat → Int32} {d x : Nat} {M : qxM} {st : List Value} {ls : qxL} : Rs L xs (d) 314 8 ls st M x = Rs L xs (d) 314 10 ls (.int (nI 32) :: st) M x := Rs_next c314_8 rfl
theorem c314_10 : qx_code 314 10 = some (10, .invokevirtual 372, 13, 311, 2, 2149) := by decide +kernel
theorem s314_10 {L : Nat} {xs : Nat → Int32} {d x : Nat} {M : qxM} {st : List Value} {ls : qxL} {t : Nat} {z0 : Int32} (hk : qx_kd t = 18) (hs : st.length ≤ 4) : Rs L xs (d + 1) 314 10 ls (.int z0 :: .ref t :: st) M x = (Rs L xs d 311 0 [some (.ref t), some (.int z0)] [] M 0).bind (qx_kn L xs (d + 1) 314 10 13 311 ls st x) := by
  have h1 : qx_act L xs (qx_rt 314) (10, .invokevirtual 372, 13, 311, 2, 2149) ls (.int z0 :: .ref t :: st) M = if 2 ≤ (.int z0 :: .ref t :: st).length ∧ st.length ≤ 4 then some (.inr (.inr (.inr (311, [.ref t, .int z0], st)))) else none := rfl
  rw [if_pos ⟨by simp [List.length_cons]; try omega, hs⟩] at h1
  have h2 := qx_kd_obj (k := 8) (by decide) hk
  exact Rs_call c314_10 h1 (by rw [show qx_args 311 [.ref t, .int z0] = decide (qx_sh t = some (.inl 8)) from rfl]; exact decide_eq_true h2)
theorem c314_13 : qx_code 314 13 = some (13, .iload_n 1, 14, 0, 0, 0) := by decide +kernel
theorem s314_13 {L : Nat} {xs : Nat → Int32} {d x : Nat} {M : qxM} {st : List Value} {a0 a2 a3 : Option Value} {z : Int32} : Rs L xs (d) 314 13 [a0, some (.int z), a2, a3] st M x = Rs L xs (d) 314 14 [a0, some (.int z), a2, a3] (.int z :: st) M x := Rs_next c314_13 rfl
theorem c314_14 : qx_code 314 14 = some (14, .istore_n 3, 15, 0, 0, 0) := by decide +kernel
theorem s314_14i {L : Nat} {xs : Nat → Int32} {d x : Nat} {M : qxM} {st : List Value} {a0 a1 a3 : Option Value} {z : Int32} {y : Int32} : Rs L xs (d) 314 14 [a0, a1, some (.int y), a3] (.int z :: st) M x = Rs L xs (d) 314 15 [a0, a1, some (.int y), some (.int z)] st M x := Rs_next c314_14 rfl
theorem s314_14r {L : Nat} {xs : Nat → Int32} {d x : Nat} {M : qxM} {st : List Value} {a0 a1 a3 : Option Value} {z : Int32} {y : Nat} : Rs L xs (d) 314 14 [a0, a1, some (.ref y), a3] (.int z :: st) M x = Rs L xs (d) 314 15 [a0, a1, some (.ref y), some (.int z)] st M x := Rs_next c314_14 rfl
theorem s314_14n {L : Nat} {xs : Nat → Int32} {d x : Nat} {M : qxM} {st : List Value} {a0 a1 a3 : Option Value} {z : Int32} : Rs L xs (d) 314 14 [a0, a1, none, a3] (.int z :: st) M x = Rs L xs (d) 314 15 [a0, a1, none, some (.int z)] st M x := Rs_next c314_14 rfl
theorem c314_15 : qx_code 314 15 = some (15, .iload_n 3, 16, 0, 0, 0) := by decide +kernel
theorem s314_15 {L : Nat} {xs : Nat → Int32} {d x : Nat} {M : qxM} {st : List Value} {a0 a1 a2 : Option Value} {z : Int32} : Rs L xs (d) 314 15 [a0, a1, a2, some (.int z)] st M x = Rs L xs (d) 314 16 [a0, a1, a2, some (.int z)] (.int z :: st) M x := Rs_next c314_15 rfl
theorem c314_16 : qx_code 314 16 = some (16, .ifCond .eq 31, 19, 47, 0, 0) := by decide +kernel
theorem s314_16 {L : Nat} {xs : Nat → Int32} {d x : Nat} {M : qxM} {st : List Value} {ls : qxL} {z : Int32} : Rs L xs (d) 314 16 ls (.int z :: st) M x = if z = 0 then Rs L xs (d) 314 47 ls st M x else Rs L xs (d) 314 19 ls st M x := Rs_ite c314_16 rfl
theorem c314_19 : qx_code 314 19 = some (19, .iload_n 3, 20, 0, 0, 0) := by decide +kernel
theorem s314_19 {L : Nat} {xs : Nat → Int32} {d x : Nat} {M : qxM} {st : List Value} {a0 a1 a2 : Option Value} {z : Int32} : Rs L xs (d) 314 19 [a0, a1, a2, some (.int z)] st M x = Rs L xs (d) 314 20 [a0, a1, a2, some (.int z)] (.int z :: st) M x := Rs_next c314_19 rfl
theorem c314_20 : qx_code 314 20 = some (20, .iload_n 1, 21, 0, 0, 0) := by decide +kernel
theorem s314_20 {L : Nat} {xs : Nat → Int32} {d x : Nat} {M : qxM} {st : List Value} {a0 a2 a3 : Option Value} {z : Int32} : Rs L xs (d) 314 20 [a0, some (.int z), a2, a3] st M x = Rs L xs (d) 314 21 [a0, some (.int z), a2, a3] (.int z :: st) M x := Rs_next c314_20 rfl
theorem c314_21 : qx_code 314 21 = some (21, .if_icmp .eq 9, 24, 30, 0, 0) := by decide +kernel
theorem s314_21 {L : Nat} {xs : Nat → Int32} {d x : Nat} {M : qxM} {st : List Value} {ls : qxL} {z y : Int32} : Rs L xs (d) 314 21 ls (.int y :: .int z :: st) M x = if z = y then Rs L xs (d) 314 30 ls st M x else Rs L xs (d) 314 24 ls st M x := Rs_ite c314_21 rfl
theorem c314_24 : qx_code 314 24 = some (24, .aload_n 0, 25, 0, 0, 0) := by decide +kernel
theorem s314_24 {L : Nat} {xs : Nat → Int32} {d x : Nat} {M : qxM} {st : List Value} {a1 a2 a3 : Option Value} {z : Nat} : Rs L xs (d) 314 24 [some (.ref z), a1, a2, a3] st M x = Rs L xs (d) 314 25 [some (.ref z), a1, a2, a3] (.ref z :: st) M x := Rs_next c314_24 rfl
theorem c314_25 : qx_code 314 25 = some (25, .bipush 43, 27, 0, 0, 0) := by decide +kernel
theorem s314_25 {L : Nat} {xs : Nat → Int32} {d x : Nat} {M : qxM} {st : List Value} {ls : qxL} : Rs L xs (d) 314 25 ls st M x = Rs L xs (d) 314 27 ls (.int (nI 43) :: st) M x := Rs_next c314_25 rfl
theorem c314_27 : qx_code 314 27 = some (27, .invokevirtual 372, 30, 311, 2, 2149) := by decide +kernel
theorem s314_27 {L : Nat} {xs : Nat → Int32} {d x : Nat} {M : qxM} {st : List Value} {ls : qxL} {t : Nat} {z0 : Int32} (hk : qx_kd t = 18) (hs : st.length ≤ 4) : Rs L xs (d + 1) 314 27 ls (.int z0 :: .ref t :: st) M x = (Rs L xs d 311 0 [some (.ref t), some (.int z0)] [] M 0).bind (qx_kn L xs (d + 1) 314 27 30 311 ls st x) := by
  have h1 : qx_act L xs (qx_rt 314) (27, .invokevirtual 372, 30, 311, 2, 2149) ls (.int z0 :: .ref t :: st) M = if 2 ≤ (.int z0 :: .ref t :: st).length ∧ st.length ≤ 4 then some (.inr (.inr (.inr (311, [.ref t, .int z0], st)))) else none := rfl
  rw [if_pos ⟨by simp [List.length_cons]; try omega, hs⟩] at h1
  have h2 := qx_kd_obj (k := 8) (by decide) hk
  exact Rs_call c314_27 h1 (by rw [show qx_args 311 [.ref t, .int z0] = decide (qx_sh t = some (.inl 8)) from rfl]; exact decide_eq_true h2)
theorem c314_30 : qx_code 314 30 = some (30, .aload_n 0, 31, 0, 0, 0) := by decide +kernel
theorem s314_30 {L : Nat} {xs : Nat → Int32} {d x : Nat} {M : qxM} {st : List Value} {a1 a2 a3 : Option Value} {z : Nat} : Rs L xs (d) 314 30 [some (.ref z), a1, a2, a3] st M x = Rs L xs (d) 314 31 [some (.ref z), a1, a2, a3] (.ref z :: st) M x := Rs_next c314_30 rfl
theorem c314_31 : qx_code 314 31 = some (31, .iload_n 3, 32, 0, 0, 0) := by decide +kernel
theorem s314_31 {L : Nat} {xs : Nat → Int32} {d x : Nat} {M : qxM} {st : List Value} {a0 a1 a2 : Option Value} {z : Int32} : Rs L xs (d) 314 31 [a0, a1, a2, some (.int z)] st M x = Rs L xs (d) 314 32 [a0, a1, a2, some (.int z)] (.int z :: st) M x := Rs_next c314_31 rfl
theorem c314_32 : qx_code 314 32 = some (32, .invokestatic 235, 35, 210, 1, 1823) := by decide +kernel
theorem s314_32 {L : Nat} {xs : Nat → Int32} {d x : Nat} {M : qxM} {st : List Value} {ls : qxL} {z0 : Int32} (hs : st.length ≤ 4) : Rs L xs (d + 1) 314 32 ls (.int z0 :: st) M x = (Rs L xs d 210 0 [some (.int z0)] [] M 0).bind (qx_kn L xs (d + 1) 314 32 35 210 ls st x) := by
  have h1 : qx_act L xs (qx_rt 314) (32, .invokestatic 235, 35, 210, 1, 1823) ls (.int z0 :: st) M = if 1 ≤ (.int z0 :: st).length ∧ st.length ≤ 4 then some (.inr (.inr (.inr (210, [.int z0], st)))) else none := rfl
  rw [if_pos ⟨by simp [List.length_cons]; try omega, hs⟩] at h1
  exact Rs_call c314_32 h1 rfl
theorem c314_35 : qx_code 314 35 = some (35, .invokevirtual 375, 38, 312, 2, 2153) := by decide +kernel
theorem s314_35 {L : Nat} {xs : Nat → Int32} {d x : Nat} {M : qxM} {st : List Value} {ls : qxL} {t : Nat} {z0 : Int32} (hk : qx_kd t = 18) (hs : st.length ≤ 4) : Rs L xs (d + 1) 314 35 ls (.int z0 :: .ref t :: st) M x = (Rs L xs d 312 0 [some (.ref t), some (.int z0)] [] M 0).bind (qx_kn L xs (d + 1) 314 35 38 312 ls st x) := by
  have h1 : qx_act L xs (qx_rt 314) (35, .invokevirtual 375, 38, 312, 2, 2153) ls (.int z0 :: .ref t :: st) M = if 2 ≤ (.int z0 :: .ref t :: st).length ∧ st.length ≤ 4 then some (.inr (.inr (.inr (312, [.ref t, .int z0], st)))) else none := rfl
  rw [if_pos ⟨by simp [List.length_cons]; try omega, hs⟩] at h1
  have h2 := qx_kd_obj (k := 8) (by decide) hk
  exact Rs_call c314_35 h1 (by rw [show qx_args 312 [.ref t, .int z0] = decide (qx_sh t = some (.inl 8)) from rfl]; exact decide_eq_true h2)
theorem c314_38 : qx_code 314 38 = some (38, .iload_n 3, 39, 0, 0, 0) := by decide +kernel
theorem s314_38 {L : Nat} {xs : Nat → Int32} {d x : Nat} {M : qxM} {st : List Value} {a0 a1 a2 : Option Value} {z : Int32} : Rs L xs (d) 314 38 [a0, a1, a2, some (.int z)] st M x = Rs L xs (d) 314 39 [a0, a1, a2, some (.int z)] (.int z :: st) M x := Rs_next c314_38 rfl
theorem c314_39 : qx_code 314 39 = some (39, .iload_n 3, 40, 0, 0, 0) := by decide +kernel
theorem s314_39 {L : Nat} {xs : Nat → Int32} {d x : Nat} {M : qxM} {st : List Value} {a0 a1 a2 : Option Value} {z : Int32} : Rs L xs (d) 314 39 [a0, a1, a2, some (.int z)] st M x = Rs L xs (d) 314 40 [a0, a1, a2, some (.int z)] (.int z :: st) M x := Rs_next c314_39 rfl
theorem c314_40 : qx_code 314 40 = some (40, .iconst 1, 41, 0, 0, 0) := by decide +kernel
theorem s314_40 {L : Nat} {xs : Nat → Int32} {d x : Nat} {M : qxM} {st : List Value} {ls : qxL} : Rs L xs (d) 314 40 ls st M x = Rs L xs (d) 314 41 ls (.int (nI 1) :: st) M x := Rs_next c314_40 rfl
theorem c314_41 : qx_code 314 41 = some (41, .isub, 42, 0, 0, 0) := by decide +kernel
theorem s314_41 {L : Nat} {xs : Nat → Int32} {d x : Nat} {M : qxM} {st : List Value} {ls : qxL} {z y : Int32} : Rs L xs (d) 314 41 ls (.int y :: .int z :: st) M x = Rs L xs (d) 314 42 ls (.int (z - y) :: st) M x := Rs_next c314_41 rfl
theorem c314_42 : qx_code 314 42 = some (42, .iand, 43, 0, 0, 0) := by decide +kernel
theorem s314_42 {L : Nat} {xs : Nat → Int32} {d x : Nat} {M : qxM} {st : List Value} {ls : qxL} {z y : Int32} : Rs L xs (d) 314 42 ls (.int y :: .int z :: st) M x = Rs L xs (d) 314 43 ls (.int (z &&& y) :: st) M x := Rs_next c314_42 rfl
theorem c314_43 : qx_code 314 43 = some (43, .istore_n 3, 44, 0, 0, 0) := by decide +kernel
theorem s314_43i {L : Nat} {xs : Nat → Int32} {d x : Nat} {M : qxM} {st : List Value} {a0 a1 a3 : Option Value} {z : Int32} {y : Int32} : Rs L xs (d) 314 43 [a0, a1, some (.int y), a3] (.int z :: st) M x = Rs L xs (d) 314 44 [a0, a1, some (.int y), some (.int z)] st M x := Rs_next c314_43 rfl
theorem s314_43r {L : Nat} {xs : Nat → Int32} {d x : Nat} {M : qxM} {st : List Value} {a0 a1 a3 : Option Value} {z : Int32} {y : Nat} : Rs L xs (d) 314 43 [a0, a1, some (.ref y), a3] (.int z :: st) M x = Rs L xs (d) 314 44 [a0, a1, some (.ref y), some (.int z)] st M x := Rs_next c314_43 rfl
theorem s314_43n {L : Nat} {xs : Nat → Int32} {d x : Nat} {M : qxM} {st : List Value} {a0 a1 a3 : Option Value} {z : Int32} : Rs L xs (d) 314 43 [a0, a1, none, a3] (.int z :: st) M x = Rs L xs (d) 314 44 [a0, a1, none, some (.int z)] st M x := Rs_next c314_43 rfl
theorem c314_44 : qx_code 314 44 = some (44, .goto (-29), 47, 15, 0, 0) := by decide +kernel
theorem s314_44 {L : Nat} {xs : Nat → Int32} {d x : Nat} {M : qxM} {st : List Value} {ls : qxL} : Rs L xs (d) 314 44 ls st M x = Rs L xs (d) 314 15 ls st M x := Rs_next c314_44 rfl
theorem c314_47 : qx_code 314 47 = some (47, .aload_n 0, 48, 0, 0, 0) := by decide +kernel
theorem s314_47 {L : Nat} {xs : Nat → Int32} {d x : Nat} {M : qxM} {st : List Value} {a1 a2 a3 : Option Value} {z : Nat} : Rs L xs (d) 314 47 [some (.ref z), a1, a2, a3] st M x = Rs L xs (d) 314 48 [some (.ref z), a1, a2, a3] (.ref z :: st) M x := Rs_next c314_47 rfl
theorem c314_48 : qx_code 314 48 = some (48, .iload_n 2, 49, 0, 0, 0) := by decide +kernel
theorem s314_48 {L : Nat} {xs : Nat → Int32} {d x : Nat} {M : qxM} {st : List Value} {a0 a1 a3 : Option Value} {z : Int32} : Rs L xs (d) 314 48 [a0, a1, some (.int z), a3] st M x = Rs L xs (d) 314 49 [a0, a1, some (.int z), a3] (.int z :: st) M x := Rs_next c314_48 rfl
theorem c314_49 : qx_code 314 49 = some (49, .iconst 1, 50, 0, 0, 0) := by decide +kernel
theorem s314_49 {L : Nat} {xs : Nat → Int32} {d x : Nat} {M : qxM} {st : List Value} {ls : qxL} : Rs L xs (d) 314 49 ls st M x = Rs L xs (d) 314 50 ls (.int (nI 1) :: st) M x := Rs_next c314_49 rfl
theorem c314_50 : qx_code 314 50 = some (50, .if_icmp .ne 8, 53, 58, 0, 0) := by decide +kernel
theorem s314_50 {L : Nat} {xs : Nat → Int32} {d x : Nat} {M : qxM} {st : List Value} {ls : qxL} {z y : Int32} : Rs L xs (d) 314 50 ls (.int y :: .int z :: st) M x = if z = y then Rs L xs (d) 314 53 ls st M x else Rs L xs (d) 314 58 ls st M x := Rs_ite c314_50 rfl
theorem c314_53 : qx_code 314 53 = some (53, .bipush 111, 55, 0, 0, 0) := by decide +kernel
theorem s314_53 {L : Nat} {xs : Nat → Int32} {d x : Nat} {M : qxM} {st : List Value} {ls : qxL} : Rs L xs (d) 314 53 ls st M x = Rs L xs (d) 314 55 ls (.int (nI 111) :: st) M x := Rs_next c314_53 rfl
theorem c314_55 : qx_code 314 55 = some (55, .goto 5, 58, 60, 0, 0) := by decide +kernel
theorem s314_55 {L : Nat} {xs : Nat → Int32} {d x : Nat} {M : qxM} {st : List Value} {ls : qxL} : Rs L xs (d) 314 55 ls st M x = Rs L xs (d) 314 60 ls st M x := Rs_next c314_55 rfl
theorem c314_58 : qx_code 314 58 = some (58, .bipush 105, 60, 0, 0, 0) := by decide +kernel
theorem s314_58 {L : Nat} {xs : Nat → Int32} {d x : Nat} {M : qxM} {st : List Value} {ls : qxL} : Rs L xs (d) 314 58 ls st M x = Rs L xs (d) 314 60 ls (.int (nI 105) :: st) M x := Rs_next c314_58 rfl
theorem c314_60 : qx_code 314 60 = some (60, .invokevirtual 372, 63, 311, 2, 2149) := by decide +kernel
theorem s314_60 {L : Nat} {xs : Nat → Int32} {d x : Nat} {M : qxM} {st : List Value} {ls : qxL} {t : Nat} {z0 : Int32} (hk : qx_kd t = 18) (hs : st.length ≤ 4) : Rs L xs (d + 1) 314 60 ls (.int z0 :: .ref t :: st) M x = (Rs L xs d 311 0 [some (.ref t), some (.int z0)] [] M 0).bind (qx_kn L xs (d + 1) 314 60 63 311 ls st x) := by
  have h1 : qx_act L xs (qx_rt 314) (60, .invokevirtual 372, 63, 311, 2, 2149) ls (.int z0 :: .ref t :: st) M = if 2 ≤ (.int z0 :: .ref t :: st).length ∧ st.length ≤ 4 then some (.inr (.inr (.inr (311, [.ref t, .int z0], st)))) else none := rfl
  rw [if_pos ⟨by simp [List.length_cons]; try omega, hs⟩] at h1
  have h2 := qx_kd_obj (k := 8) (by decide) hk
  exact Rs_call c314_60 h1 (by rw [show qx_args 311 [.ref t, .int z0] = decide (qx_sh t = some (.inl 8)) from rfl]; exact decide_eq_true h2)
theorem c314_63 : qx_code 314 63 = some (63, .return_, 64, 0, 0, 0) := by decide +kernel
theorem s314_63 {L : Nat} {xs : Nat → Int32} {d x : Nat} {M : qxM} {ls : qxL} : Rs L xs (d) 314 63 ls [] M x = some (.inl none, M, x) := Rs_ret c314_63 rfl
theorem c315_0 : qx_code 315 0 = some (0, .aload_n 0, 1, 0, 0, 0) := by decide +kernel
theorem s315_0 {L : Nat} {xs : Nat → Int32} {d x : Nat} {M : qxM} {st : List Value} {a1 a2 : Option Value} {z : Nat} : Rs L xs (d) 315 0 [some (.ref z), a1, a2] st M x = Rs L xs (d) 315 1 [some (.ref z), a1, a2] (.ref z :: st) M x := Rs_next c315_0 rfl
theorem c315_1 : qx_code 315 1 = some (1, .invokevirtual 306, 4, 263, 1, 1882) := by decide +kernel
theorem s315_1 {L : Nat} {xs : Nat → Int32} {d x : Nat} {M : qxM} {st : List Value} {ls : qxL} {t : Nat} (hk : qx_kd t = 18) (hs : st.length ≤ 4) : Rs L xs (d + 1) 315 1 ls (.ref t :: st) M x = (Rs L xs d 263 0 [some (.ref t)] [] M 0).bind (qx_kn L xs (d + 1) 315 1 4 263 ls st x) := by
  have h1 : qx_act L xs (qx_rt 315) (1, .invokevirtual 306, 4, 263, 1, 1882) ls (.ref t :: st) M = if 1 ≤ (.ref t :: st).length ∧ st.length ≤ 4 then some (.inr (.inr (.inr (263, [.ref t], st)))) else none := rfl
  rw [if_pos ⟨by simp [List.length_cons]; try omega, hs⟩] at h1
  have h2 := qx_kd_obj (k := 8) (by decide) hk
  exact Rs_call c315_1 h1 (by rw [show qx_args 263 [.ref t] = decide (qx_sh t = some (.inl 8)) from rfl]; exact decide_eq_true h2)
theorem c315_4 : qx_code 315 4 = some (4, .ifCond .ne 5, 7, 9, 0, 0) := by decide +kernel
theorem s315_4 {L : Nat} {xs : Nat → Int32} {d x : Nat} {M : qxM} {st : List Value} {ls : qxL} {z : Int32} : Rs L xs (d) 315 4 ls (.int z :: st) M x = if z = 0 then Rs L xs (d) 315 7 ls st M x else Rs L xs (d) 315 9 ls st M x := Rs_ite c315_4 rfl
theorem c315_7 : qx_code 315 7 = some (7, .iconst 0, 8, 0, 0, 0) := by decide +kernel
theorem s315_7 {L : Nat} {xs : Nat → Int32} {d x : Nat} {M : qxM} {st : List Value} {ls : qxL} : Rs L xs (d) 315 7 ls st M x = Rs L xs (d) 315 8 ls (.int (nI 0) :: st) M x := Rs_next c315_7 rfl
theorem c315_8 : qx_code 315 8 = some (8, .ireturn, 9, 0, 0, 0) := by decide +kernel
theorem s315_8 {L : Nat} {xs : Nat → Int32} {d x : Nat} {M : qxM} {ls : qxL} {z : Int32} : Rs L xs (d) 315 8 ls [.int z] M x = some (.inl (some (.int z)), M, x) := Rs_ret c315_8 rfl
theorem c315_9 : qx_code 315 9 = some (9, .aload_n 0, 10, 0, 0, 0) := by decide +kernel
theorem s315_9 {L : Nat} {xs : Nat → Int32} {d x : Nat} {M : qxM} {st : List Value} {a1 a2 : Option Value} {z : Nat} : Rs L xs (d) 315 9 [some (.ref z), a1, a2] st M x = Rs L xs (d) 315 10 [some (.ref z), a1, a2] (.ref z :: st) M x := Rs_next c315_9 rfl
theorem c315_10 : qx_code 315 10 = some (10, .iconst 0, 11, 0, 0, 0) := by decide +kernel
theorem s315_10 {L : Nat} {xs : Nat → Int32} {d x : Nat} {M : qxM} {st : List Value} {ls : qxL} : Rs L xs (d) 315 10 ls st M x = Rs L xs (d) 315 11 ls (.int (nI 0) :: st) M x := Rs_next c315_10 rfl
theorem c315_11 : qx_code 315 11 = some (11, .putfield 369, 14, 8, 21, 1566) := by decide +kernel
theorem s315_11 {L : Nat} {xs : Nat → Int32} {d x : Nat} {M : qxM} {st : List Value} {ls : qxL} {t : Nat} {z : Int32} (hk : qx_kd t = 18) : Rs L xs (d) 315 11 ls (.int z :: .ref t :: st) M x = Rs L xs (d) 315 14 ls st (qx_up M t 21 z) x := Rs_when (cnd := qx_sh t = some (.inl 8) ∧ qx_fo 8 21 = none ∧ (qx_bf 8 21 = true → z = 0 ∨ z = 1)) ⟨qx_kd_obj (k := 8) (by decide) hk, rfl, fun h => nomatch h⟩ c315_11 rfl
theorem c315_14 : qx_code 315 14 = some (14, .iconst 0, 15, 0, 0, 0) := by decide +kernel
theorem s315_14 {L : Nat} {xs : Nat → Int32} {d x : Nat} {M : qxM} {st : List Value} {ls : qxL} : Rs L xs (d) 315 14 ls st M x = Rs L xs (d) 315 15 ls (.int (nI 0) :: st) M x := Rs_next c315_14 rfl
theorem c315_15 : qx_code 315 15 = some (15, .istore_n 1, 16, 0, 0, 0) := by decide +kernel
theorem s315_15i {L : Nat} {xs : Nat → Int32} {d x : Nat} {M : qxM} {st : List Value} {a1 a2 : Option Value} {z : Int32} {y : Int32} : Rs L xs (d) 315 15 [some (.int y), a1, a2] (.int z :: st) M x = Rs L xs (d) 315 16 [some (.int y), some (.int z), a2] st M x := Rs_next c315_15 rfl
theorem s315_15r {L : Nat} {xs : Nat → Int32} {d x : Nat} {M : qxM} {st : List Value} {a1 a2 : Option Value} {z : Int32} {y : Nat} : Rs L xs (d) 315 15 [some (.ref y), a1, a2] (.int z :: st) M x = Rs L xs (d) 315 16 [some (.ref y), some (.int z), a2] st M x := Rs_next c315_15 rfl
theorem s315_15n {L : Nat} {xs : Nat → Int32} {d x : Nat} {M : qxM} {st : List Value} {a1 a2 : Option Value} {z : Int32} : Rs L xs (d) 315 15 [none, a1, a2] (.int z :: st) M x = Rs L xs (d) 315 16 [none, some (.int z), a2] st M x := Rs_next c315_15 rfl
theorem c315_16 : qx_code 315 16 = some (16, .iload_n 1, 17, 0, 0, 0) := by decide +kernel
theorem s315_16 {L : Nat} {xs : Nat → Int32} {d x : Nat} {M : qxM} {st : List Value} {a0 a2 : Option Value} {z : Int32} : Rs L xs (d) 315 16 [a0, some (.int z), a2] st M x = Rs L xs (d) 315 17 [a0, some (.int z), a2] (.int z :: st) M x := Rs_next c315_16 rfl
theorem c315_17 : qx_code 315 17 = some (17, .aload_n 0, 18, 0, 0, 0) := by decide +kernel
theorem s315_17 {L : Nat} {xs : Nat → Int32} {d x : Nat} {M : qxM} {st : List Value} {a1 a2 : Option Value} {z : Nat} : Rs L xs (d) 315 17 [some (.ref z), a1, a2] st M x = Rs L xs (d) 315 18 [some (.ref z), a1, a2] (.ref z :: st) M x := Rs_next c315_17 rfl
theorem c315_18 : qx_code 315 18 = some (18, .getfield 9, 21, 8, 1, 1546) := by decide +kernel
theorem s315_18 {L : Nat} {xs : Nat → Int32} {d x : Nat} {M : qxM} {st : List Value} {ls : qxL} {t : Nat} (hk : qx_kd t = 18) : Rs L xs (d) 315 18 ls (.ref t :: st) M x = Rs L xs (d) 315 21 ls (.ref (t + 1) :: st) M x := Rs_when (qx_kd_obj (k := 8) (by decide) hk) c315_18 rfl
theorem c315_21 : qx_code 315 21 = some (21, .iconst 0, 22, 0, 0, 0) := by decide +kernel
theorem s315_21 {L : Nat} {xs : Nat → Int32} {d x : Nat} {M : qxM} {st : List Value} {ls : qxL} : Rs L xs (d) 315 21 ls st M x = Rs L xs (d) 315 22 ls (.int (nI 0) :: st) M x := Rs_next c315_21 rfl
theorem c315_22 : qx_code 315 22 = some (22, .iaload, 23, 0, 0, 0) := by decide +kernel
theorem s315_22 {L : Nat} {xs : Nat → Int32} {d x : Nat} {M : qxM} {st : List Value} {ls : qxL} {t : Nat} {j : Int32} (hk : qx_kd t = 0) (hj : qx_ib j (qx_ln t) = true) : Rs L xs (d) 315 22 ls (.int j :: .ref t :: st) M x = Rs L xs (d) 315 23 ls (.int (M.1 t j.toNatClampNeg) :: st) M x := by
  have h1 := qx_kd_row (k := 0) (by decide) hk
  exact Rs_unless (qx_ib_not hj) c315_22 (by unfold qx_act; dsimp only; rw [h1]; rfl)
theorem c315_23 : qx_code 315 23 = some (23, .if_icmp .ge 64, 26, 87, 0, 0) := by decide +kernel
theorem s315_23 {L : Nat} {xs : Nat → Int32} {d x : Nat} {M : qxM} {st : List Value} {ls : qxL} {z y : Int32} : Rs L xs (d) 315 23 ls (.int y :: .int z :: st) M x = if y ≤ z then Rs L xs (d) 315 87 ls st M x else Rs L xs (d) 315 26 ls st M x := Rs_ite c315_23 rfl
theorem c315_26 : qx_code 315 26 = some (26, .aload_n 0, 27, 0, 0, 0) := by decide +kernel
theorem s315_26 {L : Nat} {xs : Nat → Int32} {d x : Nat} {M : qxM} {st : List Value} {a1 a2 : Option Value} {z : Nat} : Rs L xs (d) 315 26 [some (.ref z), a1, a2] st M x = Rs L xs (d) 315 27 [some (.ref z), a1, a2] (.ref z :: st) M x := Rs_next c315_26 rfl
theorem c315_27 : qx_code 315 27 = some (27, .invokevirtual 294, 30, 255, 1, 1838) := by decide +kernel
theorem s315_27 {L : Nat} {xs : Nat → Int32} {d x : Nat} {M : qxM} {st : List Value} {ls : qxL} {t : Nat} (hk : qx_kd t = 18) (hs : st.length ≤ 4) : Rs L xs (d + 1) 315 27 ls (.ref t :: st) M x = (Rs L xs d 255 0 [some (.ref t)] [] M 0).bind (qx_kn L xs (d + 1) 315 27 30 255 ls st x) := by
  have h1 : qx_act L xs (qx_rt 315) (27, .invokevirtual 294, 30, 255, 1, 1838) ls (.ref t :: st) M = if 1 ≤ (.ref t :: st).length ∧ st.length ≤ 4 then some (.inr (.inr (.inr (255, [.ref t], st)))) else none := rfl
  rw [if_pos ⟨by simp [List.length_cons]; try omega, hs⟩] at h1
  have h2 := qx_kd_obj (k := 8) (by decide) hk
  exact Rs_call c315_27 h1 (by rw [show qx_args 255 [.ref t] = decide (qx_sh t = some (.inl 8)) from rfl]; exact decide_eq_true h2)
theorem c315_30 : qx_code 315 30 = some (30, .ifCond .eq 57, 33, 87, 0, 0) := by decide +kernel
theorem s315_30 {L : Nat} {xs : Nat → Int32} {d x : Nat} {M : qxM} {st : List Value} {ls : qxL} {z : Int32} : Rs L xs (d) 315 30 ls (.int z :: st) M x = if z = 0 then Rs L xs (d) 315 87 ls st M x else Rs L xs (d) 315 33 ls st M x := Rs_ite c315_30 rfl
theorem c315_33 : qx_code 315 33 = some (33, .aload_n 0, 34, 0, 0, 0) := by decide +kernel
theorem s315_33 {L : Nat} {xs : Nat → Int32} {d x : Nat} {M : qxM} {st : List Value} {a1 a2 : Option Value} {z : Nat} : Rs L xs (d) 315 33 [some (.ref z), a1, a2] st M x = Rs L xs (d) 315 34 [some (.ref z), a1, a2] (.ref z :: st) M x := Rs_next c315_33 rfl
theorem c315_34 : qx_code 315 34 = some (34, .aload_n 0, 35, 0, 0, 0) := by decide +kernel
theorem s315_34 {L : Nat} {xs : Nat → Int32} {d x : Nat} {M : qxM} {st : List Value} {a1 a2 : Option Value} {z : Nat} : Rs L xs (d) 315 34 [some (.ref z), a1, a2] st M x = Rs L xs (d) 315 35 [some (.ref z), a1, a2] (.ref z :: st) M x := Rs_next c315_34 rfl
theorem c315_35 : qx_code 315 35 = some (35, .getfield 9, 38, 8, 1, 1546) := by decide +kernel
theorem s315_35 {L : Nat} {xs : Nat → Int32} {d x : Nat} {M : qxM} {st : List Value} {ls : qxL} {t : Nat} (hk : qx_kd t = 18) : Rs L xs (d) 315 35 ls (.ref t :: st) M x = Rs L xs (d) 315 38 ls (.ref (t + 1) :: st) M x := Rs_when (qx_kd_obj (k := 8) (by decide) hk) c315_35 rfl
theorem c315_38 : qx_code 315 38 = some (38, .bipush 69, 40, 0, 0, 0) := by decide +kernel
theorem s315_38 {L : Nat} {xs : Nat → Int32} {d x : Nat} {M : qxM} {st : List Value} {ls : qxL} : Rs L xs (d) 315 38 ls st M x = Rs L xs (d) 315 40 ls (.int (nI 69) :: st) M x := Rs_next c315_38 rfl
theorem c315_40 : qx_code 315 40 = some (40, .iload_n 1, 41, 0, 0, 0) := by decide +kernel
theorem s315_40 {L : Nat} {xs : Nat → Int32} {d x : Nat} {M : qxM} {st : List Value} {a0 a2 : Option Value} {z : Int32} : Rs L xs (d) 315 40 [a0, some (.int z), a2] st M x = Rs L xs (d) 315 41 [a0, some (.int z), a2] (.int z :: st) M x := Rs_next c315_40 rfl
theorem c315_41 : qx_code 315 41 = some (41, .iadd, 42, 0, 0, 0) := by decide +kernel
theorem s315_41 {L : Nat} {xs : Nat → Int32} {d x : Nat} {M : qxM} {st : List Value} {ls : qxL} {z y : Int32} : Rs L xs (d) 315 41 ls (.int y :: .int z :: st) M x = Rs L xs (d) 315 42 ls (.int (z + y) :: st) M x := Rs_next c315_41 rfl
theorem c315_42 : qx_code 315 42 = some (42, .iaload, 43, 0, 0, 0) := by decide +kernel
theorem s315_42 {L : Nat} {xs : Nat → Int32} {d x : Nat} {M : qxM} {st : List Value} {ls : qxL} {t : Nat} {j : Int32} (hk : qx_kd t = 0) (hj : qx_ib j (qx_ln t) = true) : Rs L xs (d) 315 42 ls (.int j :: .ref t :: st) M x = Rs L xs (d) 315 43 ls (.int (M.1 t j.toNatClampNeg) :: st) M x := by
  have h1 := qx_kd_row (k := 0) (by decide) hk
  exact Rs_unless (qx_ib_not hj) c315_42 (by unfold qx_act; dsimp only; rw [h1]; rfl)
theorem c315_43 : qx_code 315 43 = some (43, .invokevirtual 291, 46, 253, 2, 1850) := by decide +kernel
theorem s315_43 {L : Nat} {xs : Nat → Int32} {d x : Nat} {M : qxM} {st : List Value} {ls : qxL} {t : Nat} {z0 : Int32} (hk : qx_kd t = 18) (hs : st.length ≤ 4) : Rs L xs (d + 1) 315 43 ls (.int z0 :: .ref t :: st) M x = (Rs L xs d 253 0 [some (.ref t), some (.int z0), none, none] [] M 0).bind (qx_kn L xs (d + 1) 315 43 46 253 ls st x) := by
  have h1 : qx_act L xs (qx_rt 315) (43, .invokevirtual 291, 46, 253, 2, 1850) ls (.int z0 :: .ref t :: st) M = if 2 ≤ (.int z0 :: .ref t :: st).length ∧ st.length ≤ 4 then some (.inr (.inr (.inr (253, [.ref t, .int z0], st)))) else none := rfl
  rw [if_pos ⟨by simp [List.length_cons]; try omega, hs⟩] at h1
  have h2 := qx_kd_obj (k := 8) (by decide) hk
  exact Rs_call c315_43 h1 (by rw [show qx_args 253 [.ref t, .int z0] = decide (qx_sh t = some (.inl 8)) from rfl]; exact decide_eq_true h2)
theorem c315_46 : qx_code 315 46 = some (46, .istore_n 2, 47, 0, 0, 0) := by decide +kernel
theorem s315_46i {L : Nat} {xs : Nat → Int32} {d x : Nat} {M : qxM} {st : List Value} {a0 a2 : Option Value} {z : Int32} {y : Int32} : Rs L xs (d) 315 46 [a0, some (.int y), a2] (.int z :: st) M x = Rs L xs (d) 315 47 [a0, some (.int y), some (.int z)] st M x := Rs_next c315_46 rfl
theorem s315_46r {L : Nat} {xs : Nat → Int32} {d x : Nat} {M : qxM} {st : List Value} {a0 a2 : Option Value} {z : Int32} {y : Nat} : Rs L xs (d) 315 46 [a0, some (.ref y), a2] (.int z :: st) M x = Rs L xs (d) 315 47 [a0, some (.ref y), some (.int z)] st M x := Rs_next c315_46 rfl
theorem s315_46n {L : Nat} {xs : Nat → Int32} {d x : Nat} {M : qxM} {st : List Value} {a0 a2 : Option Value} {z : Int32} : Rs L xs (d) 315 46 [a0, none, a2] (.int z :: st) M x = Rs L xs (d) 315 47 [a0, none, some (.int z)] st M x := Rs_next c315_46 rfl
theorem c315_47 : qx_code 315 47 = some (47, .iload_n 2, 48, 0, 0, 0) := by decide +kernel
theorem s315_47 {L : Nat} {xs : Nat → Int32} {d x : Nat} {M : qxM} {st : List Value} {a0 a1 : Option Value} {z : Int32} : Rs L xs (d) 315 47 [a0, a1, some (.int z)] st M x = Rs L xs (d) 315 48 [a0, a1, some (.int z)] (.int z :: st) M x := Rs_next c315_47 rfl
theorem c315_48 : qx_code 315 48 = some (48, .invokestatic 235, 51, 210, 1, 1823) := by decide +kernel
theorem s315_48 {L : Nat} {xs : Nat → Int32} {d x : Nat} {M : qxM} {st : List Value} {ls : qxL} {z0 : Int32} (hs : st.length ≤ 4) : Rs L xs (d + 1) 315 48 ls (.int z0 :: st) M x = (Rs L xs d 210 0 [some (.int z0)] [] M 0).bind (qx_kn L xs (d + 1) 315 48 51 210 ls st x) := by
  have h1 : qx_act L xs (qx_rt 315) (48, .invokestatic 235, 51, 210, 1, 1823) ls (.int z0 :: st) M = if 1 ≤ (.int z0 :: st).length ∧ st.length ≤ 4 then some (.inr (.inr (.inr (210, [.int z0], st)))) else none := rfl
  rw [if_pos ⟨by simp [List.length_cons]; try omega, hs⟩] at h1
  exact Rs_call c315_48 h1 rfl
theorem c315_51 : qx_code 315 51 = some (51, .iload_n 1, 52, 0, 0, 0) := by decide +kernel
theorem s315_51 {L : Nat} {xs : Nat → Int32} {d x : Nat} {M : qxM} {st : List Value} {a0 a2 : Option Value} {z : Int32} : Rs L xs (d) 315 51 [a0, some (.int z), a2] st M x = Rs L xs (d) 315 52 [a0, some (.int z), a2] (.int z :: st) M x := Rs_next c315_51 rfl
theorem c315_52 : qx_code 315 52 = some (52, .if_icmp .ne 29, 55, 81, 0, 0) := by decide +kernel
theorem s315_52 {L : Nat} {xs : Nat → Int32} {d x : Nat} {M : qxM} {st : List Value} {ls : qxL} {z y : Int32} : Rs L xs (d) 315 52 ls (.int y :: .int z :: st) M x = if z = y then Rs L xs (d) 315 55 ls st M x else Rs L xs (d) 315 81 ls st M x := Rs_ite c315_52 rfl
theorem c315_55 : qx_code 315 55 = some (55, .aload_n 0, 56, 0, 0, 0) := by decide +kernel
theorem s315_55 {L : Nat} {xs : Nat → Int32} {d x : Nat} {M : qxM} {st : List Value} {a1 a2 : Option Value} {z : Nat} : Rs L xs (d) 315 55 [some (.ref z), a1, a2] st M x = Rs L xs (d) 315 56 [some (.ref z), a1, a2] (.ref z :: st) M x := Rs_next c315_55 rfl
theorem c315_56 : qx_code 315 56 = some (56, .getfield 9, 59, 8, 1, 1546) := by decide +kernel
theorem s315_56 {L : Nat} {xs : Nat → Int32} {d x : Nat} {M : qxM} {st : List Value} {ls : qxL} {t : Nat} (hk : qx_kd t = 18) : Rs L xs (d) 315 56 ls (.ref t :: st) M x = Rs L xs (d) 315 59 ls (.ref (t + 1) :: st) M x := Rs_when (qx_kd_obj (k := 8) (by decide) hk) c315_56 rfl
theorem c315_59 : qx_code 315 59 = some (59, .bipush 55, 61, 0, 0, 0) := by decide +kernel
theorem s315_59 {L : Nat} {xs : Nat → Int32} {d x : Nat} {M : qxM} {st : List Value} {ls : qxL} : Rs L xs (d) 315 59 ls st M x = Rs L xs (d) 315 61 ls (.int (nI 55) :: st) M x := Rs_next c315_59 rfl
theorem c315_61 : qx_code 315 61 = some (61, .iload_n 1, 62, 0, 0, 0) := by decide +kernel
theorem s315_61 {L : Nat} {xs : Nat → Int32} {d x : Nat} {M : qxM} {st : List Value} {a0 a2 : Option Value} {z : Int32} : Rs L xs (d) 315 61 [a0, some (.int z), a2] st M x = Rs L xs (d) 315 62 [a0, some (.int z), a2] (.int z :: st) M x := Rs_next c315_61 rfl
theorem c315_62 : qx_code 315 62 = some (62, .iadd, 63, 0, 0, 0) := by decide +kernel
theorem s315_62 {L : Nat} {xs : Nat → Int32} {d x : Nat} {M : qxM} {st : List Value} {ls : qxL} {z y : Int32} : Rs L xs (d) 315 62 ls (.int y :: .int z :: st) M x = Rs L xs (d) 315 63 ls (.int (z + y) :: st) M x := Rs_next c315_62 rfl
theorem c315_63 : qx_code 315 63 = some (63, .iaload, 64, 0, 0, 0) := by decide +kernel
theorem s315_63 {L : Nat} {xs : Nat → Int32} {d x : Nat} {M : qxM} {st : List Value} {ls : qxL} {t : Nat} {j : Int32} (hk : qx_kd t = 0) (hj : qx_ib j (qx_ln t) = true) : Rs L xs (d) 315 63 ls (.int j :: .ref t :: st) M x = Rs L xs (d) 315 64 ls (.int (M.1 t j.toNatClampNeg) :: st) M x := by
  have h1 := qx_kd_row (k := 0) (by decide) hk
  exact Rs_unless (qx_ib_not hj) c315_63 (by unfold qx_act; dsimp only; rw [h1]; rfl)
theorem c315_64 : qx_code 315 64 = some (64, .ifCond .eq 17, 67, 81, 0, 0) := by decide +kernel
theorem s315_64 {L : Nat} {xs : Nat → Int32} {d x : Nat} {M : qxM} {st : List Value} {ls : qxL} {z : Int32} : Rs L xs (d) 315 64 ls (.int z :: st) M x = if z = 0 then Rs L xs (d) 315 81 ls st M x else Rs L xs (d) 315 67 ls st M x := Rs_ite c315_64 rfl
theorem c315_67 : qx_code 315 67 = some (67, .aload_n 0, 68, 0, 0, 0) := by decide +kernel
theorem s315_67 {L : Nat} {xs : Nat → Int32} {d x : Nat} {M : qxM} {st : List Value} {a1 a2 : Option Value} {z : Nat} : Rs L xs (d) 315 67 [some (.ref z), a1, a2] st M x = Rs L xs (d) 315 68 [some (.ref z), a1, a2] (.ref z :: st) M x := Rs_next c315_67 rfl
theorem c315_68 : qx_code 315 68 = some (68, .iload_n 2, 69, 0, 0, 0) := by decide +kernel
theorem s315_68 {L : Nat} {xs : Nat → Int32} {d x : Nat} {M : qxM} {st : List Value} {a0 a1 : Option Value} {z : Int32} : Rs L xs (d) 315 68 [a0, a1, some (.int z)] st M x = Rs L xs (d) 315 69 [a0, a1, some (.int z)] (.int z :: st) M x := Rs_next c315_68 rfl
theorem c315_69 : qx_code 315 69 = some (69, .aload_n 0, 70, 0, 0, 0) := by decide +kernel
theorem s315_69 {L : Nat} {xs : Nat → Int32} {d x : Nat} {M : qxM} {st : List Value} {a1 a2 : Option Value} {z : Nat} : Rs L xs (d) 315 69 [some (.ref z), a1, a2] st M x = Rs L xs (d) 315 70 [some (.ref z), a1, a2] (.ref z :: st) M x := Rs_next c315_69 rfl
theorem c315_70 : qx_code 315 70 = some (70, .getfield 9, 73, 8, 1, 1546) := by decide +kernel
theorem s315_70 {L : Nat} {xs : Nat → Int32} {d x : Nat} {M : qxM} {st : List Value} {ls : qxL} {t : Nat} (hk : qx_kd t = 18) : Rs L xs (d) 315 70 ls (.ref t :: st) M x = Rs L xs (d) 315 73 ls (.ref (t + 1) :: st) M x := Rs_when (qx_kd_obj (k := 8) (by decide) hk) c315_70 rfl
theorem c315_73 : qx_code 315 73 = some (73, .bipush 55, 75, 0, 0, 0) := by decide +kernel
theorem s315_73 {L : Nat} {xs : Nat → Int32} {d x : Nat} {M : qxM} {st : List Value} {ls : qxL} : Rs L xs (d) 315 73 ls st M x = Rs L xs (d) 315 75 ls (.int (nI 55) :: st) M x := Rs_next c315_73 rfl
theorem c315_75 : qx_code 315 75 = some (75, .iload_n 1, 76, 0, 0, 0) := by decide +kernel
theorem s315_75 {L : Nat} {xs : Nat → Int32} {d x : Nat} {M : qxM} {st : List Value} {a0 a2 : Option Value} {z : Int32} : Rs L xs (d) 315 75 [a0, some (.int z), a2] st M x = Rs L xs (d) 315 76 [a0, some (.int z), a2] (.int z :: st) M x := Rs_next c315_75 rfl
theorem c315_76 : qx_code 315 76 = some (76, .iadd, 77, 0, 0, 0) := by decide +kernel
theorem s315_76 {L : Nat} {xs : Nat → Int32} {d x : Nat} {M : qxM} {st : List Value} {ls : qxL} {z y : Int32} : Rs L xs (d) 315 76 ls (.int y :: .int z :: st) M x = Rs L xs (d) 315 77 ls (.int (z + y) :: st) M x := Rs_next c315_76 rfl
theorem c315_77 : qx_code 315 77 = some (77, .iaload, 78, 0, 0, 0) := by decide +kernel
theorem s315_77 {L : Nat} {xs : Nat → Int32} {d x : Nat} {M : qxM} {st : List Value} {ls : qxL} {t : Nat} {j : Int32} (hk : qx_kd t = 0) (hj : qx_ib j (qx_ln t) = true) : Rs L xs (d) 315 77 ls (.int j :: .ref t :: st) M x = Rs L xs (d) 315 78 ls (.int (M.1 t j.toNatClampNeg) :: st) M x := by
  have h1 := qx_kd_row (k := 0) (by decide) hk
  exact Rs_unless (qx_ib_not hj) c315_77 (by unfold qx_act; dsimp only; rw [h1]; rfl)
theorem c315_78 : qx_code 315 78 = some (78, .invokevirtual 378, 81, 314, 3, 2161) := by decide +kernel
theorem s315_78 {L : Nat} {xs : Nat → Int32} {d x : Nat} {M : qxM} {st : List Value} {ls : qxL} {t : Nat} {z0 : Int32} {z1 : Int32} (hk : qx_kd t = 18) (hs : st.length ≤ 4) : Rs L xs (d + 1) 315 78 ls (.int z1 :: .int z0 :: .ref t :: st) M x = (Rs L xs d 314 0 [some (.ref t), some (.int z0), some (.int z1), none] [] M 0).bind (qx_kn L xs (d + 1) 315 78 81 314 ls st x) := by
  have h1 : qx_act L xs (qx_rt 315) (78, .invokevirtual 378, 81, 314, 3, 2161) ls (.int z1 :: .int z0 :: .ref t :: st) M = if 3 ≤ (.int z1 :: .int z0 :: .ref t :: st).length ∧ st.length ≤ 4 then some (.inr (.inr (.inr (314, [.ref t, .int z0, .int z1], st)))) else none := rfl
  rw [if_pos ⟨by simp [List.length_cons]; try omega, hs⟩] at h1
  have h2 := qx_kd_obj (k := 8) (by decide) hk
  exact Rs_call c315_78 h1 (by rw [show qx_args 314 [.ref t, .int z0, .int z1] = decide (qx_sh t = some (.inl 8)) from rfl]; exact decide_eq_true h2)
theorem c315_81 : qx_code 315 81 = some (81, .iinc 1 1, 84, 0, 0, 0) := by decide +kernel
theorem s315_81i {L : Nat} {xs : Nat → Int32} {d x : Nat} {M : qxM} {st : List Value} {a2 : Option Value} {z : Int32} {y : Int32} : Rs L xs (d) 315 81 [some (.int y), some (.int z), a2] st M x = Rs L xs (d) 315 84 [some (.int y), some (.int (z + (nI 1))), a2] st M x := Rs_next c315_81 rfl
theorem s315_81r {L : Nat} {xs : Nat → Int32} {d x : Nat} {M : qxM} {st : List Value} {a2 : Option Value} {z : Int32} {y : Nat} : Rs L xs (d) 315 81 [some (.ref y), some (.int z), a2] st M x = Rs L xs (d) 315 84 [some (.ref y), some (.int (z + (nI 1))), a2] st M x := Rs_next c315_81 rfl
theorem s315_81n {L : Nat} {xs : Nat → Int32} {d x : Nat} {M : qxM} {st : List Value} {a2 : Option Value} {z : Int32} : Rs L xs (d) 315 81 [none, some (.int z), a2] st M x = Rs L xs (d) 315 84 [none, some (.int (z + (nI 1))), a2] st M x := Rs_next c315_81 rfl
theorem c315_84 : qx_code 315 84 = some (84, .goto (-68), 87, 16, 0, 0) := by decide +kernel
theorem s315_84 {L : Nat} {xs : Nat → Int32} {d x : Nat} {M : qxM} {st : List Value} {ls : qxL} : Rs L xs (d) 315 84 ls st M x = Rs L xs (d) 315 16 ls st M x := Rs_next c315_84 rfl
theorem c315_87 : qx_code 315 87 = some (87, .aload_n 0, 88, 0, 0, 0) := by decide +kernel
theorem s315_87 {L : Nat} {xs : Nat → Int32} {d x : Nat} {M : qxM} {st : List Value} {a1 a2 : Option Value} {z : Nat} : Rs L xs (d) 315 87 [some (.ref z), a1, a2] st M x = Rs L xs (d) 315 88 [some (.ref z), a1, a2] (.ref z :: st) M x := Rs_next c315_87 rfl
theorem c315_88 : qx_code 315 88 = some (88, .getfield 369, 91, 8, 21, 1566) := by decide +kernel
theorem s315_88 {L : Nat} {xs : Nat → Int32} {d x : Nat} {M : qxM} {st : List Value} {ls : qxL} {t : Nat} (hk : qx_kd t = 18) : Rs L xs (d) 315 88 ls (.ref t :: st) M x = Rs L xs (d) 315 91 ls (.int (M.1 t 21) :: st) M x := Rs_when (qx_kd_obj (k := 8) (by decide) hk) c315_88 rfl
theorem c315_91 : qx_code 315 91 = some (91, .ifCond .ne 9, 94, 100, 0, 0) := by decide +kernel
theorem s315_91 {L : Nat} {xs : Nat → Int32} {d x : Nat} {M : qxM} {st : List Value} {ls : qxL} {z : Int32} : Rs L xs (d) 315 91 ls (.int z :: st) M x = if z = 0 then Rs L xs (d) 315 94 ls st M x else Rs L xs (d) 315 100 ls st M x := Rs_ite c315_91 rfl
theorem c315_94 : qx_code 315 94 = some (94, .aload_n 0, 95, 0, 0, 0) := by decide +kernel
theorem s315_94 {L : Nat} {xs : Nat → Int32} {d x : Nat} {M : qxM} {st : List Value} {a1 a2 : Option Value} {z : Nat} : Rs L xs (d) 315 94 [some (.ref z), a1, a2] st M x = Rs L xs (d) 315 95 [some (.ref z), a1, a2] (.ref z :: st) M x := Rs_next c315_94 rfl
theorem c315_95 : qx_code 315 95 = some (95, .bipush 46, 97, 0, 0, 0) := by decide +kernel
theorem s315_95 {L : Nat} {xs : Nat → Int32} {d x : Nat} {M : qxM} {st : List Value} {ls : qxL} : Rs L xs (d) 315 95 ls st M x = Rs L xs (d) 315 97 ls (.int (nI 46) :: st) M x := Rs_next c315_95 rfl
theorem c315_97 : qx_code 315 97 = some (97, .invokevirtual 372, 100, 311, 2, 2149) := by decide +kernel
theorem s315_97 {L : Nat} {xs : Nat → Int32} {d x : Nat} {M : qxM} {st : List Value} {ls : qxL} {t : Nat} {z0 : Int32} (hk : qx_kd t = 18) (hs : st.length ≤ 4) : Rs L xs (d + 1) 315 97 ls (.int z0 :: .ref t :: st) M x = (Rs L xs d 311 0 [some (.ref t), some (.int z0)] [] M 0).bind (qx_kn L xs (d + 1) 315 97 100 311 ls st x) := by
  have h1 : qx_act L xs (qx_rt 315) (97, .invokevirtual 372, 100, 311, 2, 2149) ls (.int z0 :: .ref t :: st) M = if 2 ≤ (.int z0 :: .ref t :: st).length ∧ st.length ≤ 4 then some (.inr (.inr (.inr (311, [.ref t, .int z0], st)))) else none := rfl
  rw [if_pos ⟨by simp [List.length_cons]; try omega, hs⟩] at h1
  have h2 := qx_kd_obj (k := 8) (by decide) hk
  exact Rs_call c315_97 h1 (by rw [show qx_args 311 [.ref t, .int z0] = decide (qx_sh t = some (.inl 8)) from rfl]; exact decide_eq_true h2)
theorem c315_100 : qx_code 315 100 = some (100, .aload_n 0, 101, 0, 0, 0) := by decide +kernel
theorem s315_100 {L : Nat} {xs : Nat → Int32} {d x : Nat} {M : qxM} {st : List Value} {a1 a2 : Option Value} {z : Nat} : Rs L xs (d) 315 100 [some (.ref z), a1, a2] st M x = Rs L xs (d) 315 101 [some (.ref z), a1, a2] (.ref z :: st) M x := Rs_next c315_100 rfl
theorem c315_101 : qx_code 315 101 = some (101, .getfield 369, 104, 8, 21, 1566) := by decide +kernel
theorem s315_101 {L : Nat} {xs : Nat → Int32} {d x : Nat} {M : qxM} {st : List Value} {ls : qxL} {t : Nat} (hk : qx_kd t = 18) : Rs L xs (d) 315 101 ls (.ref t :: st) M x = Rs L xs (d) 315 104 ls (.int (M.1 t 21) :: st) M x := Rs_when (qx_kd_obj (k := 8) (by decide) hk) c315_101 rfl
theorem c315_104 : qx_code 315 104 = some (104, .ireturn, 105, 0, 0, 0) := by decide +kernel
theorem s315_104 {L : Nat} {xs : Nat → Int32} {d x : Nat} {M : qxM} {ls : qxL} {z : Int32} : Rs L xs (d) 315 104 ls [.int z] M x = some (.inl (some (.int z)), M, x) := Rs_ret c315_104 rfl
theorem c316_0 : qx_code 316 0 = some (0, .aload_n 0, 1, 0, 0, 0) := by decide +kernel
theorem s316_0 {L : Nat} {xs : Nat → Int32} {d x : Nat} {M : qxM} {st : List Value} {a1 a2 : Option Value} {z : Nat} : Rs L xs (d) 316 0 [some (.ref z), a1, a2] st M x = Rs L xs (d) 316 1 [some (.ref z), a1, a2] (.ref z :: st) M x := Rs_next c316_0 rfl
theorem c316_1 : qx_code 316 1 = some (1, .iload_n 1, 2, 0, 0, 0) := by decide +kernel
theorem s316_1 {L : Nat} {xs : Nat → Int32} {d x : Nat} {M : qxM} {st : List Value} {a0 a2 : Option Value} {z : Int32} : Rs L xs (d) 316 1 [a0, some (.int z), a2] st M x = Rs L xs (d) 316 2 [a0, some (.int z), a2] (.int z :: st) M x := Rs_next c316_1 rfl
theorem c316_2 : qx_code 316 2 = some (2, .invokevirtual 232, 5, 226, 2, 1819) := by decide +kernel
theorem s316_2 {L : Nat} {xs : Nat → Int32} {d x : Nat} {M : qxM} {st : List Value} {ls : qxL} {t : Nat} {z0 : Int32} (hk : qx_kd t = 18) (hs : st.length ≤ 4) : Rs L xs (d + 1) 316 2 ls (.int z0 :: .ref t :: st) M x = (Rs L xs d 226 0 [some (.ref t), some (.int z0)] [] M 0).bind (qx_kn L xs (d + 1) 316 2 5 226 ls st x) := by
  have h1 : qx_act L xs (qx_rt 316) (2, .invokevirtual 232, 5, 226, 2, 1819) ls (.int z0 :: .ref t :: st) M = if 2 ≤ (.int z0 :: .ref t :: st).length ∧ st.length ≤ 4 then some (.inr (.inr (.inr (226, [.ref t, .int z0], st)))) else none := rfl
  rw [if_pos ⟨by simp [List.length_cons]; try omega, hs⟩] at h1
  have h2 := qx_kd_obj (k := 8) (by decide) hk
  exact Rs_call c316_2 h1 (by rw [show qx_args 226 [.ref t, .int z0] = decide (qx_sh t = some (.inl 8)) from rfl]; exact decide_eq_true h2)
theorem c316_5 : qx_code 316 5 = some (5, .ifCond .ne 5, 8, 10, 0, 0) := by decide +kernel
theorem s316_5 {L : Nat} {xs : Nat → Int32} {d x : Nat} {M : qxM} {st : List Value} {ls : qxL} {z : Int32} : Rs L xs (d) 316 5 ls (.int z :: st) M x = if z = 0 then Rs L xs (d) 316 8 ls st M x else Rs L xs (d) 316 10 ls st M x := Rs_ite c316_5 rfl
theorem c316_8 : qx_code 316 8 = some (8, .iconst 0, 9, 0, 0, 0) := by decide +kernel
theorem s316_8 {L : Nat} {xs : Nat → Int32} {d x : Nat} {M : qxM} {st : List Value} {ls : qxL} : Rs L xs (d) 316 8 ls st M x = Rs L xs (d) 316 9 ls (.int (nI 0) :: st) M x := Rs_next c316_8 rfl
theorem c316_9 : qx_code 316 9 = some (9, .ireturn, 10, 0, 0, 0) := by decide +kernel
theorem s316_9 {L : Nat} {xs : Nat → Int32} {d x : Nat} {M : qxM} {ls : qxL} {z : Int32} : Rs L xs (d) 316 9 ls [.int z] M x = some (.inl (some (.int z)), M, x) := Rs_ret c316_9 rfl
theorem c316_10 : qx_code 316 10 = some (10, .aload_n 0, 11, 0, 0, 0) := by decide +kernel
theorem s316_10 {L : Nat} {xs : Nat → Int32} {d x : Nat} {M : qxM} {st : List Value} {a1 a2 : Option Value} {z : Nat} : Rs L xs (d) 316 10 [some (.ref z), a1, a2] st M x = Rs L xs (d) 316 11 [some (.ref z), a1, a2] (.ref z :: st) M x := Rs_next c316_10 rfl
theorem c316_11 : qx_code 316 11 = some (11, .iconst 0, 12, 0, 0, 0) := by decide +kernel
theorem s316_11 {L : Nat} {xs : Nat → Int32} {d x : Nat} {M : qxM} {st : List Value} {ls : qxL} : Rs L xs (d) 316 11 ls st M x = Rs L xs (d) 316 12 ls (.int (nI 0) :: st) M x := Rs_next c316_11 rfl
theorem c316_12 : qx_code 316 12 = some (12, .putfield 369, 15, 8, 21, 1566) := by decide +kernel
theorem s316_12 {L : Nat} {xs : Nat → Int32} {d x : Nat} {M : qxM} {st : List Value} {ls : qxL} {t : Nat} {z : Int32} (hk : qx_kd t = 18) : Rs L xs (d) 316 12 ls (.int z :: .ref t :: st) M x = Rs L xs (d) 316 15 ls st (qx_up M t 21 z) x := Rs_when (cnd := qx_sh t = some (.inl 8) ∧ qx_fo 8 21 = none ∧ (qx_bf 8 21 = true → z = 0 ∨ z = 1)) ⟨qx_kd_obj (k := 8) (by decide) hk, rfl, fun h => nomatch h⟩ c316_12 rfl
theorem c316_15 : qx_code 316 15 = some (15, .iconst 0, 16, 0, 0, 0) := by decide +kernel
theorem s316_15 {L : Nat} {xs : Nat → Int32} {d x : Nat} {M : qxM} {st : List Value} {ls : qxL} : Rs L xs (d) 316 15 ls st M x = Rs L xs (d) 316 16 ls (.int (nI 0) :: st) M x := Rs_next c316_15 rfl
theorem c316_16 : qx_code 316 16 = some (16, .istore_n 2, 17, 0, 0, 0) := by decide +kernel
theorem s316_16i {L : Nat} {xs : Nat → Int32} {d x : Nat} {M : qxM} {st : List Value} {a0 a2 : Option Value} {z : Int32} {y : Int32} : Rs L xs (d) 316 16 [a0, some (.int y), a2] (.int z :: st) M x = Rs L xs (d) 316 17 [a0, some (.int y), some (.int z)] st M x := Rs_next c316_16 rfl
theorem s316_16r {L : Nat} {xs : Nat → Int32} {d x : Nat} {M : qxM} {st : List Value} {a0 a2 : Option Value} {z : Int32} {y : Nat} : Rs L xs (d) 316 16 [a0, some (.ref y), a2] (.int z :: st) M x = Rs L xs (d) 316 17 [a0, some (.ref y), some (.int z)] st M x := Rs_next c316_16 rfl
theorem s316_16n {L : Nat} {xs : Nat → Int32} {d x : Nat} {M : qxM} {st : List Value} {a0 a2 : Option Value} {z : Int32} : Rs L xs (d) 316 16 [a0, none, a2] (.int z :: st) M x = Rs L xs (d) 316 17 [a0, none, some (.int z)] st M x := Rs_next c316_16 rfl
theorem c316_17 : qx_code 316 17 = some (17, .iload_n 2, 18, 0, 0, 0) := by decide +kernel
theorem s316_17 {L : Nat} {xs : Nat → Int32} {d x : Nat} {M : qxM} {st : List Value} {a0 a1 : Option Value} {z : Int32} : Rs L xs (d) 316 17 [a0, a1, some (.int z)] st M x = Rs L xs (d) 316 18 [a0, a1, some (.int z)] (.int z :: st) M x := Rs_next c316_17 rfl
theorem c316_18 : qx_code 316 18 = some (18, .aload_n 0, 19, 0, 0, 0) := by decide +kernel
theorem s316_18 {L : Nat} {xs : Nat → Int32} {d x : Nat} {M : qxM} {st : List Value} {a1 a2 : Option Value} {z : Nat} : Rs L xs (d) 316 18 [some (.ref z), a1, a2] st M x = Rs L xs (d) 316 19 [some (.ref z), a1, a2] (.ref z :: st) M x := Rs_next c316_18 rfl
theorem c316_19 : qx_code 316 19 = some (19, .iload_n 1, 20, 0, 0, 0) := by decide +kernel
theorem s316_19 {L : Nat} {xs : Nat → Int32} {d x : Nat} {M : qxM} {st : List Value} {a0 a2 : Option Value} {z : Int32} : Rs L xs (d) 316 19 [a0, some (.int z), a2] st M x = Rs L xs (d) 316 20 [a0, some (.int z), a2] (.int z :: st) M x := Rs_next c316_19 rfl
theorem c316_20 : qx_code 316 20 = some (20, .invokevirtual 309, 23, 266, 2, 1902) := by decide +kernel
theorem s316_20 {L : Nat} {xs : Nat → Int32} {d x : Nat} {M : qxM} {st : List Value} {ls : qxL} {t : Nat} {z0 : Int32} (hk : qx_kd t = 18) (hs : st.length ≤ 4) : Rs L xs (d + 1) 316 20 ls (.int z0 :: .ref t :: st) M x = (Rs L xs d 266 0 [some (.ref t), some (.int z0)] [] M 0).bind (qx_kn L xs (d + 1) 316 20 23 266 ls st x) := by
  have h1 : qx_act L xs (qx_rt 316) (20, .invokevirtual 309, 23, 266, 2, 1902) ls (.int z0 :: .ref t :: st) M = if 2 ≤ (.int z0 :: .ref t :: st).length ∧ st.length ≤ 4 then some (.inr (.inr (.inr (266, [.ref t, .int z0], st)))) else none := rfl
  rw [if_pos ⟨by simp [List.length_cons]; try omega, hs⟩] at h1
  have h2 := qx_kd_obj (k := 8) (by decide) hk
  exact Rs_call c316_20 h1 (by rw [show qx_args 266 [.ref t, .int z0] = decide (qx_sh t = some (.inl 8)) from rfl]; exact decide_eq_true h2)
theorem c316_23 : qx_code 316 23 = some (23, .if_icmp .ge 29, 26, 52, 0, 0) := by decide +kernel
theorem s316_23 {L : Nat} {xs : Nat → Int32} {d x : Nat} {M : qxM} {st : List Value} {ls : qxL} {z y : Int32} : Rs L xs (d) 316 23 ls (.int y :: .int z :: st) M x = if y ≤ z then Rs L xs (d) 316 52 ls st M x else Rs L xs (d) 316 26 ls st M x := Rs_ite c316_23 rfl
theorem c316_26 : qx_code 316 26 = some (26, .iload_n 2, 27, 0, 0, 0) := by decide +kernel
theorem s316_26 {L : Nat} {xs : Nat → Int32} {d x : Nat} {M : qxM} {st : List Value} {a0 a1 : Option Value} {z : Int32} : Rs L xs (d) 316 26 [a0, a1, some (.int z)] st M x = Rs L xs (d) 316 27 [a0, a1, some (.int z)] (.int z :: st) M x := Rs_next c316_26 rfl
theorem c316_27 : qx_code 316 27 = some (27, .ifCond .le 9, 30, 36, 0, 0) := by decide +kernel
theorem s316_27 {L : Nat} {xs : Nat → Int32} {d x : Nat} {M : qxM} {st : List Value} {ls : qxL} {z : Int32} : Rs L xs (d) 316 27 ls (.int z :: st) M x = if z ≤ 0 then Rs L xs (d) 316 36 ls st M x else Rs L xs (d) 316 30 ls st M x := Rs_ite c316_27 rfl
theorem c316_30 : qx_code 316 30 = some (30, .aload_n 0, 31, 0, 0, 0) := by decide +kernel
theorem s316_30 {L : Nat} {xs : Nat → Int32} {d x : Nat} {M : qxM} {st : List Value} {a1 a2 : Option Value} {z : Nat} : Rs L xs (d) 316 30 [some (.ref z), a1, a2] st M x = Rs L xs (d) 316 31 [some (.ref z), a1, a2] (.ref z :: st) M x := Rs_next c316_30 rfl
theorem c316_31 : qx_code 316 31 = some (31, .bipush 62, 33, 0, 0, 0) := by decide +kernel
theorem s316_31 {L : Nat} {xs : Nat → Int32} {d x : Nat} {M : qxM} {st : List Value} {ls : qxL} : Rs L xs (d) 316 31 ls st M x = Rs L xs (d) 316 33 ls (.int (nI 62) :: st) M x := Rs_next c316_31 rfl
theorem c316_33 : qx_code 316 33 = some (33, .invokevirtual 372, 36, 311, 2, 2149) := by decide +kernel
theorem s316_33 {L : Nat} {xs : Nat → Int32} {d x : Nat} {M : qxM} {st : List Value} {ls : qxL} {t : Nat} {z0 : Int32} (hk : qx_kd t = 18) (hs : st.length ≤ 4) : Rs L xs (d + 1) 316 33 ls (.int z0 :: .ref t :: st) M x = (Rs L xs d 311 0 [some (.ref t), some (.int z0)] [] M 0).bind (qx_kn L xs (d + 1) 316 33 36 311 ls st x) := by
  have h1 : qx_act L xs (qx_rt 316) (33, .invokevirtual 372, 36, 311, 2, 2149) ls (.int z0 :: .ref t :: st) M = if 2 ≤ (.int z0 :: .ref t :: st).length ∧ st.length ≤ 4 then some (.inr (.inr (.inr (311, [.ref t, .int z0], st)))) else none := rfl
  rw [if_pos ⟨by simp [List.length_cons]; try omega, hs⟩] at h1
  have h2 := qx_kd_obj (k := 8) (by decide) hk
  exact Rs_call c316_33 h1 (by rw [show qx_args 311 [.ref t, .int z0] = decide (qx_sh t = some (.inl 8)) from rfl]; exact decide_eq_true h2)
theorem c316_36 : qx_code 316 36 = some (36, .aload_n 0, 37, 0, 0, 0) := by decide +kernel
theorem s316_36 {L : Nat} {xs : Nat → Int32} {d x : Nat} {M : qxM} {st : List Value} {a1 a2 : Option Value} {z : Nat} : Rs L xs (d) 316 36 [some (.ref z), a1, a2] st M x = Rs L xs (d) 316 37 [some (.ref z), a1, a2] (.ref z :: st) M x := Rs_next c316_36 rfl
theorem c316_37 : qx_code 316 37 = some (37, .aload_n 0, 38, 0, 0, 0) := by decide +kernel
theorem s316_37 {L : Nat} {xs : Nat → Int32} {d x : Nat} {M : qxM} {st : List Value} {a1 a2 : Option Value} {z : Nat} : Rs L xs (d) 316 37 [some (.ref z), a1, a2] st M x = Rs L xs (d) 316 38 [some (.ref z), a1, a2] (.ref z :: st) M x := Rs_next c316_37 rfl
theorem c316_38 : qx_code 316 38 = some (38, .iload_n 1, 39, 0, 0, 0) := by decide +kernel
theorem s316_38 {L : Nat} {xs : Nat → Int32} {d x : Nat} {M : qxM} {st : List Value} {a0 a2 : Option Value} {z : Int32} : Rs L xs (d) 316 38 [a0, some (.int z), a2] st M x = Rs L xs (d) 316 39 [a0, some (.int z), a2] (.int z :: st) M x := Rs_next c316_38 rfl
theorem c316_39 : qx_code 316 39 = some (39, .iload_n 2, 40, 0, 0, 0) := by decide +kernel
theorem s316_39 {L : Nat} {xs : Nat → Int32} {d x : Nat} {M : qxM} {st : List Value} {a0 a1 : Option Value} {z : Int32} : Rs L xs (d) 316 39 [a0, a1, some (.int z)] st M x = Rs L xs (d) 316 40 [a0, a1, some (.int z)] (.int z :: st) M x := Rs_next c316_39 rfl
theorem c316_40 : qx_code 316 40 = some (40, .invokevirtual 241, 43, 235, 3, 1910) := by decide +kernel
theorem s316_40 {L : Nat} {xs : Nat → Int32} {d x : Nat} {M : qxM} {st : List Value} {ls : qxL} {t : Nat} {z0 : Int32} {z1 : Int32} (hk : qx_kd t = 18) (hs : st.length ≤ 4) : Rs L xs (d + 1) 316 40 ls (.int z1 :: .int z0 :: .ref t :: st) M x = (Rs L xs d 235 0 [some (.ref t), some (.int z0), some (.int z1)] [] M 0).bind (qx_kn L xs (d + 1) 316 40 43 235 ls st x) := by
  have h1 : qx_act L xs (qx_rt 316) (40, .invokevirtual 241, 43, 235, 3, 1910) ls (.int z1 :: .int z0 :: .ref t :: st) M = if 3 ≤ (.int z1 :: .int z0 :: .ref t :: st).length ∧ st.length ≤ 4 then some (.inr (.inr (.inr (235, [.ref t, .int z0, .int z1], st)))) else none := rfl
  rw [if_pos ⟨by simp [List.length_cons]; try omega, hs⟩] at h1
  have h2 := qx_kd_obj (k := 8) (by decide) hk
  exact Rs_call c316_40 h1 (by rw [show qx_args 235 [.ref t, .int z0, .int z1] = decide (qx_sh t = some (.inl 8)) from rfl]; exact decide_eq_true h2)
theorem c316_43 : qx_code 316 43 = some (43, .invokevirtual 375, 46, 312, 2, 2153) := by decide +kernel
theorem s316_43 {L : Nat} {xs : Nat → Int32} {d x : Nat} {M : qxM} {st : List Value} {ls : qxL} {t : Nat} {z0 : Int32} (hk : qx_kd t = 18) (hs : st.length ≤ 4) : Rs L xs (d + 1) 316 43 ls (.int z0 :: .ref t :: st) M x = (Rs L xs d 312 0 [some (.ref t), some (.int z0)] [] M 0).bind (qx_kn L xs (d + 1) 316 43 46 312 ls st x) := by
  have h1 : qx_act L xs (qx_rt 316) (43, .invokevirtual 375, 46, 312, 2, 2153) ls (.int z0 :: .ref t :: st) M = if 2 ≤ (.int z0 :: .ref t :: st).length ∧ st.length ≤ 4 then some (.inr (.inr (.inr (312, [.ref t, .int z0], st)))) else none := rfl
  rw [if_pos ⟨by simp [List.length_cons]; try omega, hs⟩] at h1
  have h2 := qx_kd_obj (k := 8) (by decide) hk
  exact Rs_call c316_43 h1 (by rw [show qx_args 312 [.ref t, .int z0] = decide (qx_sh t = some (.inl 8)) from rfl]; exact decide_eq_true h2)
theorem c316_46 : qx_code 316 46 = some (46, .iinc 2 1, 49, 0, 0, 0) := by decide +kernel
theorem s316_46i {L : Nat} {xs : Nat → Int32} {d x : Nat} {M : qxM} {st : List Value} {a0 : Option Value} {z : Int32} {y : Int32} : Rs L xs (d) 316 46 [a0, some (.int y), some (.int z)] st M x = Rs L xs (d) 316 49 [a0, some (.int y), some (.int (z + (nI 1)))] st M x := Rs_next c316_46 rfl
theorem s316_46r {L : Nat} {xs : Nat → Int32} {d x : Nat} {M : qxM} {st : List Value} {a0 : Option Value} {z : Int32} {y : Nat} : Rs L xs (d) 316 46 [a0, some (.ref y), some (.int z)] st M x = Rs L xs (d) 316 49 [a0, some (.ref y), some (.int (z + (nI 1)))] st M x := Rs_next c316_46 rfl
theorem s316_46n {L : Nat} {xs : Nat → Int32} {d x : Nat} {M : qxM} {st : List Value} {a0 : Option Value} {z : Int32} : Rs L xs (d) 316 46 [a0, none, some (.int z)] st M x = Rs L xs (d) 316 49 [a0, none, some (.int (z + (nI 1)))] st M x := Rs_next c316_46 rfl
theorem c316_49 : qx_code 316 49 = some (49, .goto (-32), 52, 17, 0, 0) := by decide +kernel
theorem s316_49 {L : Nat} {xs : Nat → Int32} {d x : Nat} {M : qxM} {st : List Value} {ls : qxL} : Rs L xs (d) 316 49 ls st M x = Rs L xs (d) 316 17 ls st M x := Rs_next c316_49 rfl
theorem c316_52 : qx_code 316 52 = some (52, .aload_n 0, 53, 0, 0, 0) := by decide +kernel
theorem s316_52 {L : Nat} {xs : Nat → Int32} {d x : Nat} {M : qxM} {st : List Value} {a1 a2 : Option Value} {z : Nat} : Rs L xs (d) 316 52 [some (.ref z), a1, a2] st M x = Rs L xs (d) 316 53 [some (.ref z), a1, a2] (.ref z :: st) M x := Rs_next c316_52 rfl
theorem c316_53 : qx_code 316 53 = some (53, .getfield 369, 56, 8, 21, 1566) := by decide +kernel
theorem s316_53 {L : Nat} {xs : Nat → Int32} {d x : Nat} {M : qxM} {st : List Value} {ls : qxL} {t : Nat} (hk : qx_kd t = 18) : Rs L xs (d) 316 53 ls (.ref t :: st) M x = Rs L xs (d) 316 56 ls (.int (M.1 t 21) :: st) M x := Rs_when (qx_kd_obj (k := 8) (by decide) hk) c316_53 rfl
theorem c316_56 : qx_code 316 56 = some (56, .ifCond .ne 9, 59, 65, 0, 0) := by decide +kernel
theorem s316_56 {L : Nat} {xs : Nat → Int32} {d x : Nat} {M : qxM} {st : List Value} {ls : qxL} {z : Int32} : Rs L xs (d) 316 56 ls (.int z :: st) M x = if z = 0 then Rs L xs (d) 316 59 ls st M x else Rs L xs (d) 316 65 ls st M x := Rs_ite c316_56 rfl
theorem c316_59 : qx_code 316 59 = some (59, .aload_n 0, 60, 0, 0, 0) := by decide +kernel
theorem s316_59 {L : Nat} {xs : Nat → Int32} {d x : Nat} {M : qxM} {st : List Value} {a1 a2 : Option Value} {z : Nat} : Rs L xs (d) 316 59 [some (.ref z), a1, a2] st M x = Rs L xs (d) 316 60 [some (.ref z), a1, a2] (.ref z :: st) M x := Rs_next c316_59 rfl
theorem c316_60 : qx_code 316 60 = some (60, .bipush 46, 62, 0, 0, 0) := by decide +kernel
theorem s316_60 {L : Nat} {xs : Nat → Int32} {d x : Nat} {M : qxM} {st : List Value} {ls : qxL} : Rs L xs (d) 316 60 ls st M x = Rs L xs (d) 316 62 ls (.int (nI 46) :: st) M x := Rs_next c316_60 rfl
theorem c316_62 : qx_code 316 62 = some (62, .invokevirtual 372, 65, 311, 2, 2149) := by decide +kernel
theorem s316_62 {L : Nat} {xs : Nat → Int32} {d x : Nat} {M : qxM} {st : List Value} {ls : qxL} {t : Nat} {z0 : Int32} (hk : qx_kd t = 18) (hs : st.length ≤ 4) : Rs L xs (d + 1) 316 62 ls (.int z0 :: .ref t :: st) M x = (Rs L xs d 311 0 [some (.ref t), some (.int z0)] [] M 0).bind (qx_kn L xs (d + 1) 316 62 65 311 ls st x) := by
  have h1 : qx_act L xs (qx_rt 316) (62, .invokevirtual 372, 65, 311, 2, 2149) ls (.int z0 :: .ref t :: st) M = if 2 ≤ (.int z0 :: .ref t :: st).length ∧ st.length ≤ 4 then some (.inr (.inr (.inr (311, [.ref t, .int z0], st)))) else none := rfl
  rw [if_pos ⟨by simp [List.length_cons]; try omega, hs⟩] at h1
  have h2 := qx_kd_obj (k := 8) (by decide) hk
  exact Rs_call c316_62 h1 (by rw [show qx_args 311 [.ref t, .int z0] = decide (qx_sh t = some (.inl 8)) from rfl]; exact decide_eq_true h2)
theorem c316_65 : qx_code 316 65 = some (65, .aload_n 0, 66, 0, 0, 0) := by decide +kernel
theorem s316_65 {L : Nat} {xs : Nat → Int32} {d x : Nat} {M : qxM} {st : List Value} {a1 a2 : Option Value} {z : Nat} : Rs L xs (d) 316 65 [some (.ref z), a1, a2] st M x = Rs L xs (d) 316 66 [some (.ref z), a1, a2] (.ref z :: st) M x := Rs_next c316_65 rfl
theorem c316_66 : qx_code 316 66 = some (66, .getfield 369, 69, 8, 21, 1566) := by decide +kernel
theorem s316_66 {L : Nat} {xs : Nat → Int32} {d x : Nat} {M : qxM} {st : List Value} {ls : qxL} {t : Nat} (hk : qx_kd t = 18) : Rs L xs (d) 316 66 ls (.ref t :: st) M x = Rs L xs (d) 316 69 ls (.int (M.1 t 21) :: st) M x := Rs_when (qx_kd_obj (k := 8) (by decide) hk) c316_66 rfl
theorem c316_69 : qx_code 316 69 = some (69, .ireturn, 70, 0, 0, 0) := by decide +kernel
theorem s316_69 {L : Nat} {xs : Nat → Int32} {d x : Nat} {M : qxM} {ls : qxL} {z : Int32} : Rs L xs (d) 316 69 ls [.int z] M x = some (.inl (some (.int z)), M, x) := Rs_ret c316_69 rfl
theorem c317_0 : qx_code 317 0 = some (0, .aload_n 0, 1, 0, 0, 0) := by decide +kernel
theorem s317_0 {L : Nat} {xs : Nat → Int32} {d x : Nat} {M : qxM} {st : List Value} {a1 : Option Value} {z : Nat} : Rs L xs (d) 317 0 [some (.ref z), a1] st M x = Rs L xs (d) 317 1 [some (.ref z), a1] (.ref z :: st) M x := Rs_next c317_0 rfl
theorem c317_1 : qx_code 317 1 = some (1, .iload_n 1, 2, 0, 0, 0) := by decide +kernel
theorem s317_1 {L : Nat} {xs : Nat → Int32} {d x : Nat} {M : qxM} {st : List Value} {a0 : Option Value} {z : Int32} : Rs L xs (d) 317 1 [a0, some (.int z)] st M x = Rs L xs (d) 317 2 [a0, some (.int z)] (.int z :: st) M x := Rs_next c317_1 rfl
theorem c317_2 : qx_code 317 2 = some (2, .iconst 0, 3, 0, 0, 0) := by decide +kernel
theorem s317_2 {L : Nat} {xs : Nat → Int32} {d x : Nat} {M : qxM} {st : List Value} {ls : qxL} : Rs L xs (d) 317 2 ls st M x = Rs L xs (d) 317 3 ls (.int (nI 0) :: st) M x := Rs_next c317_2 rfl
theorem c317_3 : qx_code 317 3 = some (3, .aload_n 0, 4, 0, 0, 0) := by decide +kernel
theorem s317_3 {L : Nat} {xs : Nat → Int32} {d x : Nat} {M : qxM} {st : List Value} {a1 : Option Value} {z : Nat} : Rs L xs (d) 317 3 [some (.ref z), a1] st M x = Rs L xs (d) 317 4 [some (.ref z), a1] (.ref z :: st) M x := Rs_next c317_3 rfl
theorem c317_4 : qx_code 317 4 = some (4, .getfield 369, 7, 8, 21, 1566) := by decide +kernel
theorem s317_4 {L : Nat} {xs : Nat → Int32} {d x : Nat} {M : qxM} {st : List Value} {ls : qxL} {t : Nat} (hk : qx_kd t = 18) : Rs L xs (d) 317 4 ls (.ref t :: st) M x = Rs L xs (d) 317 7 ls (.int (M.1 t 21) :: st) M x := Rs_when (qx_kd_obj (k := 8) (by decide) hk) c317_4 rfl
theorem c317_7 : qx_code 317 7 = some (7, .iconst 1, 8, 0, 0, 0) := by decide +kernel
theorem s317_7 {L : Nat} {xs : Nat → Int32} {d x : Nat} {M : qxM} {st : List Value} {ls : qxL} : Rs L xs (d) 317 7 ls st M x = Rs L xs (d) 317 8 ls (.int (nI 1) :: st) M x := Rs_next c317_7 rfl
theorem c317_8 : qx_code 317 8 = some (8, .isub, 9, 0, 0, 0) := by decide +kernel
theorem s317_8 {L : Nat} {xs : Nat → Int32} {d x : Nat} {M : qxM} {st : List Value} {ls : qxL} {z y : Int32} : Rs L xs (d) 317 8 ls (.int y :: .int z :: st) M x = Rs L xs (d) 317 9 ls (.int (z - y) :: st) M x := Rs_next c317_8 rfl
theorem c317_9 : qx_code 317 9 = some (9, .invokestatic 69, 12, 178, 3, 1641) := by decide +kernel
theorem s317_9 {L : Nat} {xs : Nat → Int32} {d x : Nat} {M : qxM} {st : List Value} {ls : qxL} {z0 : Int32} {z1 : Int32} {z2 : Int32} (hs : st.length ≤ 4) : Rs L xs (d + 1) 317 9 ls (.int z2 :: .int z1 :: .int z0 :: st) M x = (Rs L xs d 178 0 [some (.int z0), some (.int z1), some (.int z2)] [] M 0).bind (qx_kn L xs (d + 1) 317 9 12 178 ls st x) := by
  have h1 : qx_act L xs (qx_rt 317) (9, .invokestatic 69, 12, 178, 3, 1641) ls (.int z2 :: .int z1 :: .int z0 :: st) M = if 3 ≤ (.int z2 :: .int z1 :: .int z0 :: st).length ∧ st.length ≤ 4 then some (.inr (.inr (.inr (178, [.int z0, .int z1, .int z2], st)))) else none := rfl
  rw [if_pos ⟨by simp [List.length_cons]; try omega, hs⟩] at h1
  exact Rs_call c317_9 h1 rfl
theorem c317_12 : qx_code 317 12 = some (12, .iconst 1, 13, 0, 0, 0) := by decide +kernel
theorem s317_12 {L : Nat} {xs : Nat → Int32} {d x : Nat} {M : qxM} {st : List Value} {ls : qxL} : Rs L xs (d) 317 12 ls st M x = Rs L xs (d) 317 13 ls (.int (nI 1) :: st) M x := Rs_next c317_12 rfl
theorem c317_13 : qx_code 317 13 = some (13, .iconst 1, 14, 0, 0, 0) := by decide +kernel
theorem s317_13 {L : Nat} {xs : Nat → Int32} {d x : Nat} {M : qxM} {st : List Value} {ls : qxL} : Rs L xs (d) 317 13 ls st M x = Rs L xs (d) 317 14 ls (.int (nI 1) :: st) M x := Rs_next c317_13 rfl
theorem c317_14 : qx_code 317 14 = some (14, .invokevirtual 49, 17, 180, 4, 1644) := by decide +kernel
theorem s317_14 {L : Nat} {xs : Nat → Int32} {d x : Nat} {M : qxM} {st : List Value} {ls : qxL} {t : Nat} {z0 : Int32} {z1 : Int32} {z2 : Int32} (hk : qx_kd t = 18) (hs : st.length ≤ 4) : Rs L xs (d + 1) 317 14 ls (.int z2 :: .int z1 :: .int z0 :: .ref t :: st) M x = (Rs L xs d 180 0 [some (.ref t), some (.int z0), some (.int z1), some (.int z2)] [] M 0).bind (qx_kn L xs (d + 1) 317 14 17 180 ls st x) := by
  have h1 : qx_act L xs (qx_rt 317) (14, .invokevirtual 49, 17, 180, 4, 1644) ls (.int z2 :: .int z1 :: .int z0 :: .ref t :: st) M = if 4 ≤ (.int z2 :: .int z1 :: .int z0 :: .ref t :: st).length ∧ st.length ≤ 4 then some (.inr (.inr (.inr (180, [.ref t, .int z0, .int z1, .int z2], st)))) else none := rfl
  rw [if_pos ⟨by simp [List.length_cons]; try omega, hs⟩] at h1
  have h2 := qx_kd_obj (k := 8) (by decide) hk
  exact Rs_call c317_14 h1 (by rw [show qx_args 180 [.ref t, .int z0, .int z1, .int z2] = decide (qx_sh t = some (.inl 8)) from rfl]; exact decide_eq_true h2)
theorem c317_17 : qx_code 317 17 = some (17, .ifCond .eq 12, 20, 29, 0, 0) := by decide +kernel
theorem s317_17 {L : Nat} {xs : Nat → Int32} {d x : Nat} {M : qxM} {st : List Value} {ls : qxL} {z : Int32} : Rs L xs (d) 317 17 ls (.int z :: st) M x = if z = 0 then Rs L xs (d) 317 29 ls st M x else Rs L xs (d) 317 20 ls st M x := Rs_ite c317_17 rfl
theorem c317_20 : qx_code 317 20 = some (20, .aload_n 0, 21, 0, 0, 0) := by decide +kernel
theorem s317_20 {L : Nat} {xs : Nat → Int32} {d x : Nat} {M : qxM} {st : List Value} {a1 : Option Value} {z : Nat} : Rs L xs (d) 317 20 [some (.ref z), a1] st M x = Rs L xs (d) 317 21 [some (.ref z), a1] (.ref z :: st) M x := Rs_next c317_20 rfl
theorem c317_21 : qx_code 317 21 = some (21, .getfield 43, 24, 8, 20, 1565) := by decide +kernel
theorem s317_21 {L : Nat} {xs : Nat → Int32} {d x : Nat} {M : qxM} {st : List Value} {ls : qxL} {t : Nat} (hk : qx_kd t = 18) : Rs L xs (d) 317 21 ls (.ref t :: st) M x = Rs L xs (d) 317 24 ls (.ref (t + 10) :: st) M x := Rs_when (qx_kd_obj (k := 8) (by decide) hk) c317_21 rfl
theorem c317_24 : qx_code 317 24 = some (24, .iload_n 1, 25, 0, 0, 0) := by decide +kernel
theorem s317_24 {L : Nat} {xs : Nat → Int32} {d x : Nat} {M : qxM} {st : List Value} {a0 : Option Value} {z : Int32} : Rs L xs (d) 317 24 [a0, some (.int z)] st M x = Rs L xs (d) 317 25 [a0, some (.int z)] (.int z :: st) M x := Rs_next c317_24 rfl
theorem c317_25 : qx_code 317 25 = some (25, .baload, 26, 0, 0, 0) := by decide +kernel
theorem s317_25 {L : Nat} {xs : Nat → Int32} {d x : Nat} {M : qxM} {st : List Value} {ls : qxL} {t : Nat} {j : Int32} (hk : qx_kd t = 1) (hj : qx_ib j (qx_ln t) = true) : Rs L xs (d) 317 25 ls (.int j :: .ref t :: st) M x = Rs L xs (d) 317 26 ls (.int (M.1 t j.toNatClampNeg) :: st) M x := by
  have h1 := qx_kd_row (k := 1) (by decide) hk
  exact Rs_unless (qx_ib_not hj) c317_25 (by unfold qx_act; dsimp only; rw [h1]; rfl)
theorem s317_25z {L : Nat} {xs : Nat → Int32} {d x : Nat} {M : qxM} {st : List Value} {ls : qxL} {t : Nat} {j : Int32} (hk : qx_kd t = 2) (hj : qx_ib j (qx_ln t) = true) : Rs L xs (d) 317 25 ls (.int j :: .ref t :: st) M x = Rs L xs (d) 317 26 ls (.int (M.1 t j.toNatClampNeg) :: st) M x := by
  have h1 := qx_kd_row (k := 2) (by decide) hk
  exact Rs_unless (qx_ib_not hj) c317_25 (by unfold qx_act; dsimp only; rw [h1]; rfl)
theorem c317_26 : qx_code 317 26 = some (26, .goto 4, 29, 30, 0, 0) := by decide +kernel
theorem s317_26 {L : Nat} {xs : Nat → Int32} {d x : Nat} {M : qxM} {st : List Value} {ls : qxL} : Rs L xs (d) 317 26 ls st M x = Rs L xs (d) 317 30 ls st M x := Rs_next c317_26 rfl
theorem c317_29 : qx_code 317 29 = some (29, .iconst 0, 30, 0, 0, 0) := by decide +kernel
theorem s317_29 {L : Nat} {xs : Nat → Int32} {d x : Nat} {M : qxM} {st : List Value} {ls : qxL} : Rs L xs (d) 317 29 ls st M x = Rs L xs (d) 317 30 ls (.int (nI 0) :: st) M x := Rs_next c317_29 rfl
theorem c317_30 : qx_code 317 30 = some (30, .ireturn, 31, 0, 0, 0) := by decide +kernel
theorem s317_30 {L : Nat} {xs : Nat → Int32} {d x : Nat} {M : qxM} {ls : qxL} {z : Int32} : Rs L xs (d) 317 30 ls [.int z] M x = some (.inl (some (.int z)), M, x) := Rs_ret c317_30 rfl
theorem c318_0 : qx_code 318 0 = some (0, .aload_n 0, 1, 0, 0, 0) := by decide +kernel
theorem s318_0 {L : Nat} {xs : Nat → Int32} {d x : Nat} {M : qxM} {st : List Value} {a1 : Option Value} {z : Nat} : Rs L xs (d) 318 0 [some (.ref z), a1] st M x = Rs L xs (d) 318 1 [some (.ref z), a1] (.ref z :: st) M x := Rs_next c318_0 rfl
theorem c318_1 : qx_code 318 1 = some (1, .getfield 191, 4, 8, 7, 1552) := by decide +kernel
theorem s318_1 {L : Nat} {xs : Nat → Int32} {d x : Nat} {M : qxM} {st : List Value} {ls : qxL} {t : Nat} (hk : qx_kd t = 18) : Rs L xs (d) 318 1 ls (.ref t :: st) M x = Rs L xs (d) 318 4 ls (.int (M.1 t 7) :: st) M x := Rs_when (qx_kd_obj (k := 8) (by decide) hk) c318_1 rfl
theorem c318_4 : qx_code 318 4 = some (4, .bipush 8, 6, 0, 0, 0) := by decide +kernel
theorem s318_4 {L : Nat} {xs : Nat → Int32} {d x : Nat} {M : qxM} {st : List Value} {ls : qxL} : Rs L xs (d) 318 4 ls st M x = Rs L xs (d) 318 6 ls (.int (nI 8) :: st) M x := Rs_next c318_4 rfl
theorem c318_6 : qx_code 318 6 = some (6, .if_icmp .ne 44, 9, 50, 0, 0) := by decide +kernel
theorem s318_6 {L : Nat} {xs : Nat → Int32} {d x : Nat} {M : qxM} {st : List Value} {ls : qxL} {z y : Int32} : Rs L xs (d) 318 6 ls (.int y :: .int z :: st) M x = if z = y then Rs L xs (d) 318 9 ls st M x else Rs L xs (d) 318 50 ls st M x := Rs_ite c318_6 rfl
theorem c318_9 : qx_code 318 9 = some (9, .iconst 0, 10, 0, 0, 0) := by decide +kernel
theorem s318_9 {L : Nat} {xs : Nat → Int32} {d x : Nat} {M : qxM} {st : List Value} {ls : qxL} : Rs L xs (d) 318 9 ls st M x = Rs L xs (d) 318 10 ls (.int (nI 0) :: st) M x := Rs_next c318_9 rfl
theorem c318_10 : qx_code 318 10 = some (10, .istore_n 1, 11, 0, 0, 0) := by decide +kernel
theorem s318_10i {L : Nat} {xs : Nat → Int32} {d x : Nat} {M : qxM} {st : List Value} {a1 : Option Value} {z : Int32} {y : Int32} : Rs L xs (d) 318 10 [some (.int y), a1] (.int z :: st) M x = Rs L xs (d) 318 11 [some (.int y), some (.int z)] st M x := Rs_next c318_10 rfl
theorem s318_10r {L : Nat} {xs : Nat → Int32} {d x : Nat} {M : qxM} {st : List Value} {a1 : Option Value} {z : Int32} {y : Nat} : Rs L xs (d) 318 10 [some (.ref y), a1] (.int z :: st) M x = Rs L xs (d) 318 11 [some (.ref y), some (.int z)] st M x := Rs_next c318_10 rfl
theorem s318_10n {L : Nat} {xs : Nat → Int32} {d x : Nat} {M : qxM} {st : List Value} {a1 : Option Value} {z : Int32} : Rs L xs (d) 318 10 [none, a1] (.int z :: st) M x = Rs L xs (d) 318 11 [none, some (.int z)] st M x := Rs_next c318_10 rfl
theorem c318_11 : qx_code 318 11 = some (11, .iload_n 1, 12, 0, 0, 0) := by decide +kernel
theorem s318_11 {L : Nat} {xs : Nat → Int32} {d x : Nat} {M : qxM} {st : List Value} {a0 : Option Value} {z : Int32} : Rs L xs (d) 318 11 [a0, some (.int z)] st M x = Rs L xs (d) 318 12 [a0, some (.int z)] (.int z :: st) M x := Rs_next c318_11 rfl
theorem c318_12 : qx_code 318 12 = some (12, .sipush 2345, 15, 0, 0, 0) := by decide +kernel
theorem s318_12 {L : Nat} {xs : Nat → Int32} {d x : Nat} {M : qxM} {st : List Value} {ls : qxL} : Rs L xs (d) 318 12 ls st M x = Rs L xs (d) 318 15 ls (.int (nI 2345) :: st) M x := Rs_next c318_12 rfl
theorem c318_15 : qx_code 318 15 = some (15, .if_icmp .ge 25, 18, 40, 0, 0) := by decide +kernel
theorem s318_15 {L : Nat} {xs : Nat → Int32} {d x : Nat} {M : qxM} {st : List Value} {ls : qxL} {z y : Int32} : Rs L xs (d) 318 15 ls (.int y :: .int z :: st) M x = if y ≤ z then Rs L xs (d) 318 40 ls st M x else Rs L xs (d) 318 18 ls st M x := Rs_ite c318_15 rfl
theorem c318_18 : qx_code 318 18 = some (18, .aload_n 0, 19, 0, 0, 0) := by decide +kernel
theorem s318_18 {L : Nat} {xs : Nat → Int32} {d x : Nat} {M : qxM} {st : List Value} {a1 : Option Value} {z : Nat} : Rs L xs (d) 318 18 [some (.ref z), a1] st M x = Rs L xs (d) 318 19 [some (.ref z), a1] (.ref z :: st) M x := Rs_next c318_18 rfl
theorem c318_19 : qx_code 318 19 = some (19, .getfield 16, 22, 8, 3, 1548) := by decide +kernel
theorem s318_19 {L : Nat} {xs : Nat → Int32} {d x : Nat} {M : qxM} {st : List Value} {ls : qxL} {t : Nat} (hk : qx_kd t = 18) : Rs L xs (d) 318 19 ls (.ref t :: st) M x = Rs L xs (d) 318 22 ls (.ref (t + 3) :: st) M x := Rs_when (qx_kd_obj (k := 8) (by decide) hk) c318_19 rfl
theorem c318_22 : qx_code 318 22 = some (22, .iload_n 1, 23, 0, 0, 0) := by decide +kernel
theorem s318_22 {L : Nat} {xs : Nat → Int32} {d x : Nat} {M : qxM} {st : List Value} {a0 : Option Value} {z : Int32} : Rs L xs (d) 318 22 [a0, some (.int z)] st M x = Rs L xs (d) 318 23 [a0, some (.int z)] (.int z :: st) M x := Rs_next c318_22 rfl
theorem c318_23 : qx_code 318 23 = some (23, .aload_n 0, 24, 0, 0, 0) := by decide +kernel
theorem s318_23 {L : Nat} {xs : Nat → Int32} {d x : Nat} {M : qxM} {st : List Value} {a1 : Option Value} {z : Nat} : Rs L xs (d) 318 23 [some (.ref z), a1] st M x = Rs L xs (d) 318 24 [some (.ref z), a1] (.ref z :: st) M x := Rs_next c318_23 rfl
theorem c318_24 : qx_code 318 24 = some (24, .getfield 16, 27, 8, 3, 1548) := by decide +kernel
theorem s318_24 {L : Nat} {xs : Nat → Int32} {d x : Nat} {M : qxM} {st : List Value} {ls : qxL} {t : Nat} (hk : qx_kd t = 18) : Rs L xs (d) 318 24 ls (.ref t :: st) M x = Rs L xs (d) 318 27 ls (.ref (t + 3) :: st) M x := Rs_when (qx_kd_obj (k := 8) (by decide) hk) c318_24 rfl
theorem c318_27 : qx_code 318 27 = some (27, .iload_n 1, 28, 0, 0, 0) := by decide +kernel
theorem s318_27 {L : Nat} {xs : Nat → Int32} {d x : Nat} {M : qxM} {st : List Value} {a0 : Option Value} {z : Int32} : Rs L xs (d) 318 27 [a0, some (.int z)] st M x = Rs L xs (d) 318 28 [a0, some (.int z)] (.int z :: st) M x := Rs_next c318_27 rfl
theorem c318_28 : qx_code 318 28 = some (28, .sipush 335, 31, 0, 0, 0) := by decide +kernel
theorem s318_28 {L : Nat} {xs : Nat → Int32} {d x : Nat} {M : qxM} {st : List Value} {ls : qxL} : Rs L xs (d) 318 28 ls st M x = Rs L xs (d) 318 31 ls (.int (nI 335) :: st) M x := Rs_next c318_28 rfl
theorem c318_31 : qx_code 318 31 = some (31, .iadd, 32, 0, 0, 0) := by decide +kernel
theorem s318_31 {L : Nat} {xs : Nat → Int32} {d x : Nat} {M : qxM} {st : List Value} {ls : qxL} {z y : Int32} : Rs L xs (d) 318 31 ls (.int y :: .int z :: st) M x = Rs L xs (d) 318 32 ls (.int (z + y) :: st) M x := Rs_next c318_31 rfl
theorem c318_32 : qx_code 318 32 = some (32, .iaload, 33, 0, 0, 0) := by decide +kernel
theorem s318_32 {L : Nat} {xs : Nat → Int32} {d x : Nat} {M : qxM} {st : List Value} {ls : qxL} {t : Nat} {j : Int32} (hk : qx_kd t = 0) (hj : qx_ib j (qx_ln t) = true) : Rs L xs (d) 318 32 ls (.int j :: .ref t :: st) M x = Rs L xs (d) 318 33 ls (.int (M.1 t j.toNatClampNeg) :: st) M x := by
  have h1 := qx_kd_row (k := 0) (by decide) hk
  exact Rs_unless (qx_ib_not hj) c318_32 (by unfold qx_act; dsimp only; rw [h1]; rfl)
theorem c318_33 : qx_code 318 33 = some (33, .iastore, 34, 0, 0, 0) := by decide +kernel
theorem s318_33 {L : Nat} {xs : Nat → Int32} {d x : Nat} {M : qxM} {st : List Value} {ls : qxL} {t : Nat} {j : Int32} {z : Int32} (hk : qx_kd t = 0) (hj : qx_ib j (qx_ln t) = true) : Rs L xs (d) 318 33 ls (.int z :: .int j :: .ref t :: st) M x = Rs L xs (d) 318 34 ls st (qx_up M t j.toNatClampNeg z) x := by
  have h1 := qx_kd_row (k := 0) (by decide) hk
  exact Rs_unless (qx_ib_not hj) c318_33 (by unfold qx_act; dsimp only; rw [h1]; rfl)
theorem c318_34 : qx_code 318 34 = some (34, .iinc 1 1, 37, 0, 0, 0) := by decide +kernel
theorem s318_34i {L : Nat} {xs : Nat → Int32} {d x : Nat} {M : qxM} {st : List Value} {z : Int32} {y : Int32} : Rs L xs (d) 318 34 [some (.int y), some (.int z)] st M x = Rs L xs (d) 318 37 [some (.int y), some (.int (z + (nI 1)))] st M x := Rs_next c318_34 rfl
theorem s318_34r {L : Nat} {xs : Nat → Int32} {d x : Nat} {M : qxM} {st : List Value} {z : Int32} {y : Nat} : Rs L xs (d) 318 34 [some (.ref y), some (.int z)] st M x = Rs L xs (d) 318 37 [some (.ref y), some (.int (z + (nI 1)))] st M x := Rs_next c318_34 rfl
theorem s318_34n {L : Nat} {xs : Nat → Int32} {d x : Nat} {M : qxM} {st : List Value} {z : Int32} : Rs L xs (d) 318 34 [none, some (.int z)] st M x = Rs L xs (d) 318 37 [none, some (.int (z + (nI 1)))] st M x := Rs_next c318_34 rfl
theorem c318_37 : qx_code 318 37 = some (37, .goto (-26), 40, 11, 0, 0) := by decide +kernel
theorem s318_37 {L : Nat} {xs : Nat → Int32} {d x : Nat} {M : qxM} {st : List Value} {ls : qxL} : Rs L xs (d) 318 37 ls st M x = Rs L xs (d) 318 11 ls st M x := Rs_next c318_37 rfl
theorem c318_40 : qx_code 318 40 = some (40, .aload_n 0, 41, 0, 0, 0) := by decide +kernel
theorem s318_40 {L : Nat} {xs : Nat → Int32} {d x : Nat} {M : qxM} {st : List Value} {a1 : Option Value} {z : Nat} : Rs L xs (d) 318 40 [some (.ref z), a1] st M x = Rs L xs (d) 318 41 [some (.ref z), a1] (.ref z :: st) M x := Rs_next c318_40 rfl
theorem c318_41 : qx_code 318 41 = some (41, .dup, 42, 0, 0, 0) := by decide +kernel
theorem s318_41r {L : Nat} {xs : Nat → Int32} {d x : Nat} {M : qxM} {st : List Value} {ls : qxL} {z : Nat} : Rs L xs (d) 318 41 ls (.ref z :: st) M x = Rs L xs (d) 318 42 ls (.ref z :: .ref z :: st) M x := Rs_next c318_41 rfl
theorem s318_41i {L : Nat} {xs : Nat → Int32} {d x : Nat} {M : qxM} {st : List Value} {ls : qxL} {z : Int32} : Rs L xs (d) 318 41 ls (.int z :: st) M x = Rs L xs (d) 318 42 ls (.int z :: .int z :: st) M x := Rs_next c318_41 rfl
theorem c318_42 : qx_code 318 42 = some (42, .getfield 191, 45, 8, 7, 1552) := by decide +kernel
theorem s318_42 {L : Nat} {xs : Nat → Int32} {d x : Nat} {M : qxM} {st : List Value} {ls : qxL} {t : Nat} (hk : qx_kd t = 18) : Rs L xs (d) 318 42 ls (.ref t :: st) M x = Rs L xs (d) 318 45 ls (.int (M.1 t 7) :: st) M x := Rs_when (qx_kd_obj (k := 8) (by decide) hk) c318_42 rfl
theorem c318_45 : qx_code 318 45 = some (45, .iconst 1, 46, 0, 0, 0) := by decide +kernel
theorem s318_45 {L : Nat} {xs : Nat → Int32} {d x : Nat} {M : qxM} {st : List Value} {ls : qxL} : Rs L xs (d) 318 45 ls st M x = Rs L xs (d) 318 46 ls (.int (nI 1) :: st) M x := Rs_next c318_45 rfl
theorem c318_46 : qx_code 318 46 = some (46, .isub, 47, 0, 0, 0) := by decide +kernel
theorem s318_46 {L : Nat} {xs : Nat → Int32} {d x : Nat} {M : qxM} {st : List Value} {ls : qxL} {z y : Int32} : Rs L xs (d) 318 46 ls (.int y :: .int z :: st) M x = Rs L xs (d) 318 47 ls (.int (z - y) :: st) M x := Rs_next c318_46 rfl
theorem c318_47 : qx_code 318 47 = some (47, .putfield 191, 50, 8, 7, 1552) := by decide +kernel
theorem s318_47 {L : Nat} {xs : Nat → Int32} {d x : Nat} {M : qxM} {st : List Value} {ls : qxL} {t : Nat} {z : Int32} (hk : qx_kd t = 18) : Rs L xs (d) 318 47 ls (.int z :: .ref t :: st) M x = Rs L xs (d) 318 50 ls st (qx_up M t 7 z) x := Rs_when (cnd := qx_sh t = some (.inl 8) ∧ qx_fo 8 7 = none ∧ (qx_bf 8 7 = true → z = 0 ∨ z = 1)) ⟨qx_kd_obj (k := 8) (by decide) hk, rfl, fun h => nomatch h⟩ c318_47 rfl
theorem c318_50 : qx_code 318 50 = some (50, .aload_n 0, 51, 0, 0, 0) := by decide +kernel
theorem s318_50 {L : Nat} {xs : Nat → Int32} {d x : Nat} {M : qxM} {st : List Value} {a1 : Option Value} {z : Nat} : Rs L xs (d) 318 50 [some (.ref z), a1] st M x = Rs L xs (d) 318 51 [some (.ref z), a1] (.ref z :: st) M x := Rs_next c318_50 rfl
theorem c318_51 : qx_code 318 51 = some (51, .getfield 9, 54, 8, 1, 1546) := by decide +kernel
theorem s318_51 {L : Nat} {xs : Nat → Int32} {d x : Nat} {M : qxM} {st : List Value} {ls : qxL} {t : Nat} (hk : qx_kd t = 18) : Rs L xs (d) 318 51 ls (.ref t :: st) M x = Rs L xs (d) 318 54 ls (.ref (t + 1) :: st) M x := Rs_when (qx_kd_obj (k := 8) (by decide) hk) c318_51 rfl
theorem c318_54 : qx_code 318 54 = some (54, .iconst 0, 55, 0, 0, 0) := by decide +kernel
theorem s318_54 {L : Nat} {xs : Nat → Int32} {d x : Nat} {M : qxM} {st : List Value} {ls : qxL} : Rs L xs (d) 318 54 ls st M x = Rs L xs (d) 318 55 ls (.int (nI 0) :: st) M x := Rs_next c318_54 rfl
theorem c318_55 : qx_code 318 55 = some (55, .aload_n 0, 56, 0, 0, 0) := by decide +kernel
theorem s318_55 {L : Nat} {xs : Nat → Int32} {d x : Nat} {M : qxM} {st : List Value} {a1 : Option Value} {z : Nat} : Rs L xs (d) 318 55 [some (.ref z), a1] st M x = Rs L xs (d) 318 56 [some (.ref z), a1] (.ref z :: st) M x := Rs_next c318_55 rfl
theorem c318_56 : qx_code 318 56 = some (56, .getfield 16, 59, 8, 3, 1548) := by decide +kernel
theorem s318_56 {L : Nat} {xs : Nat → Int32} {d x : Nat} {M : qxM} {st : List Value} {ls : qxL} {t : Nat} (hk : qx_kd t = 18) : Rs L xs (d) 318 56 ls (.ref t :: st) M x = Rs L xs (d) 318 59 ls (.ref (t + 3) :: st) M x := Rs_when (qx_kd_obj (k := 8) (by decide) hk) c318_56 rfl
theorem c318_59 : qx_code 318 59 = some (59, .aload_n 0, 60, 0, 0, 0) := by decide +kernel
theorem s318_59 {L : Nat} {xs : Nat → Int32} {d x : Nat} {M : qxM} {st : List Value} {a1 : Option Value} {z : Nat} : Rs L xs (d) 318 59 [some (.ref z), a1] st M x = Rs L xs (d) 318 60 [some (.ref z), a1] (.ref z :: st) M x := Rs_next c318_59 rfl
theorem c318_60 : qx_code 318 60 = some (60, .getfield 191, 63, 8, 7, 1552) := by decide +kernel
theorem s318_60 {L : Nat} {xs : Nat → Int32} {d x : Nat} {M : qxM} {st : List Value} {ls : qxL} {t : Nat} (hk : qx_kd t = 18) : Rs L xs (d) 318 60 ls (.ref t :: st) M x = Rs L xs (d) 318 63 ls (.int (M.1 t 7) :: st) M x := Rs_when (qx_kd_obj (k := 8) (by decide) hk) c318_60 rfl
theorem c318_63 : qx_code 318 63 = some (63, .sipush 335, 66, 0, 0, 0) := by decide +kernel
theorem s318_63 {L : Nat} {xs : Nat → Int32} {d x : Nat} {M : qxM} {st : List Value} {ls : qxL} : Rs L xs (d) 318 63 ls st M x = Rs L xs (d) 318 66 ls (.int (nI 335) :: st) M x := Rs_next c318_63 rfl
theorem c318_66 : qx_code 318 66 = some (66, .imul, 67, 0, 0, 0) := by decide +kernel
theorem s318_66 {L : Nat} {xs : Nat → Int32} {d x : Nat} {M : qxM} {st : List Value} {ls : qxL} {z y : Int32} : Rs L xs (d) 318 66 ls (.int y :: .int z :: st) M x = Rs L xs (d) 318 67 ls (.int (z * y) :: st) M x := Rs_next c318_66 rfl
theorem c318_67 : qx_code 318 67 = some (67, .invokestatic 52, 70, 182, 4, 1652) := by decide +kernel
theorem s318_67 {L : Nat} {xs : Nat → Int32} {d x : Nat} {M : qxM} {st : List Value} {ls : qxL} {z0 : Nat} {z1 : Int32} {z2 : Nat} {z3 : Int32} (hs : st.length ≤ 4) : Rs L xs (d + 1) 318 67 ls (.int z3 :: .ref z2 :: .int z1 :: .ref z0 :: st) M x = (Rs L xs d 182 0 [some (.ref z0), some (.int z1), some (.ref z2), some (.int z3), none] [] M 0).bind (qx_kn L xs (d + 1) 318 67 70 182 ls st x) := by
  have h1 : qx_act L xs (qx_rt 318) (67, .invokestatic 52, 70, 182, 4, 1652) ls (.int z3 :: .ref z2 :: .int z1 :: .ref z0 :: st) M = if 4 ≤ (.int z3 :: .ref z2 :: .int z1 :: .ref z0 :: st).length ∧ st.length ≤ 4 then some (.inr (.inr (.inr (182, [.ref z0, .int z1, .ref z2, .int z3], st)))) else none := rfl
  rw [if_pos ⟨by simp [List.length_cons]; try omega, hs⟩] at h1
  exact Rs_call c318_67 h1 rfl
theorem c318_70 : qx_code 318 70 = some (70, .aload_n 0, 71, 0, 0, 0) := by decide +kernel
theorem s318_70 {L : Nat} {xs : Nat → Int32} {d x : Nat} {M : qxM} {st : List Value} {a1 : Option Value} {z : Nat} : Rs L xs (d) 318 70 [some (.ref z), a1] st M x = Rs L xs (d) 318 71 [some (.ref z), a1] (.ref z :: st) M x := Rs_next c318_70 rfl
theorem c318_71 : qx_code 318 71 = some (71, .dup, 72, 0, 0, 0) := by decide +kernel
theorem s318_71r {L : Nat} {xs : Nat → Int32} {d x : Nat} {M : qxM} {st : List Value} {ls : qxL} {z : Nat} : Rs L xs (d) 318 71 ls (.ref z :: st) M x = Rs L xs (d) 318 72 ls (.ref z :: .ref z :: st) M x := Rs_next c318_71 rfl
theorem s318_71i {L : Nat} {xs : Nat → Int32} {d x : Nat} {M : qxM} {st : List Value} {ls : qxL} {z : Int32} : Rs L xs (d) 318 71 ls (.int z :: st) M x = Rs L xs (d) 318 72 ls (.int z :: .int z :: st) M x := Rs_next c318_71 rfl
theorem c318_72 : qx_code 318 72 = some (72, .getfield 191, 75, 8, 7, 1552) := by decide +kernel
theorem s318_72 {L : Nat} {xs : Nat → Int32} {d x : Nat} {M : qxM} {st : List Value} {ls : qxL} {t : Nat} (hk : qx_kd t = 18) : Rs L xs (d) 318 72 ls (.ref t :: st) M x = Rs L xs (d) 318 75 ls (.int (M.1 t 7) :: st) M x := Rs_when (qx_kd_obj (k := 8) (by decide) hk) c318_72 rfl
theorem c318_75 : qx_code 318 75 = some (75, .iconst 1, 76, 0, 0, 0) := by decide +kernel
theorem s318_75 {L : Nat} {xs : Nat → Int32} {d x : Nat} {M : qxM} {st : List Value} {ls : qxL} : Rs L xs (d) 318 75 ls st M x = Rs L xs (d) 318 76 ls (.int (nI 1) :: st) M x := Rs_next c318_75 rfl
theorem c318_76 : qx_code 318 76 = some (76, .iadd, 77, 0, 0, 0) := by decide +kernel
theorem s318_76 {L : Nat} {xs : Nat → Int32} {d x : Nat} {M : qxM} {st : List Value} {ls : qxL} {z y : Int32} : Rs L xs (d) 318 76 ls (.int y :: .int z :: st) M x = Rs L xs (d) 318 77 ls (.int (z + y) :: st) M x := Rs_next c318_76 rfl
theorem c318_77 : qx_code 318 77 = some (77, .putfield 191, 80, 8, 7, 1552) := by decide +kernel
theorem s318_77 {L : Nat} {xs : Nat → Int32} {d x : Nat} {M : qxM} {st : List Value} {ls : qxL} {t : Nat} {z : Int32} (hk : qx_kd t = 18) : Rs L xs (d) 318 77 ls (.int z :: .ref t :: st) M x = Rs L xs (d) 318 80 ls st (qx_up M t 7 z) x := Rs_when (cnd := qx_sh t = some (.inl 8) ∧ qx_fo 8 7 = none ∧ (qx_bf 8 7 = true → z = 0 ∨ z = 1)) ⟨qx_kd_obj (k := 8) (by decide) hk, rfl, fun h => nomatch h⟩ c318_77 rfl
theorem c318_80 : qx_code 318 80 = some (80, .return_, 81, 0, 0, 0) := by decide +kernel
theorem s318_80 {L : Nat} {xs : Nat → Int32} {d x : Nat} {M : qxM} {ls : qxL} : Rs L xs (d) 318 80 ls [] M x = some (.inl none, M, x) := Rs_ret c318_80 rfl
theorem c319_0 : qx_code 319 0 = some (0, .aload_n 0, 1, 0, 0, 0) := by decide +kernel
theorem s319_0 {L : Nat} {xs : Nat → Int32} {d x : Nat} {M : qxM} {st : List Value} {z : Nat} : Rs L xs (d) 319 0 [some (.ref z)] st M x = Rs L xs (d) 319 1 [some (.ref z)] (.ref z :: st) M x := Rs_next c319_0 rfl
theorem c319_1 : qx_code 319 1 = some (1, .invokevirtual 381, 4, 318, 1, 2177) := by decide +kernel
theorem s319_1 {L : Nat} {xs : Nat → Int32} {d x : Nat} {M : qxM} {st : List Value} {ls : qxL} {t : Nat} (hk : qx_kd t = 18) (hs : st.length ≤ 4) : Rs L xs (d + 1) 319 1 ls (.ref t :: st) M x = (Rs L xs d 318 0 [some (.ref t), none] [] M 0).bind (qx_kn L xs (d + 1) 319 1 4 318 ls st x) := by
  have h1 : qx_act L xs (qx_rt 319) (1, .invokevirtual 381, 4, 318, 1, 2177) ls (.ref t :: st) M = if 1 ≤ (.ref t :: st).length ∧ st.length ≤ 4 then some (.inr (.inr (.inr (318, [.ref t], st)))) else none := rfl
  rw [if_pos ⟨by simp [List.length_cons]; try omega, hs⟩] at h1
  have h2 := qx_kd_obj (k := 8) (by decide) hk
  exact Rs_call c319_1 h1 (by rw [show qx_args 318 [.ref t] = decide (qx_sh t = some (.inl 8)) from rfl]; exact decide_eq_true h2)
theorem c319_4 : qx_code 319 4 = some (4, .aload_n 0, 5, 0, 0, 0) := by decide +kernel
theorem s319_4 {L : Nat} {xs : Nat → Int32} {d x : Nat} {M : qxM} {st : List Value} {z : Nat} : Rs L xs (d) 319 4 [some (.ref z)] st M x = Rs L xs (d) 319 5 [some (.ref z)] (.ref z :: st) M x := Rs_next c319_4 rfl
theorem c319_5 : qx_code 319 5 = some (5, .invokevirtual 384, 8, 239, 1, 2193) := by decide +kernel
theorem s319_5 {L : Nat} {xs : Nat → Int32} {d x : Nat} {M : qxM} {st : List Value} {ls : qxL} {t : Nat} (hk : qx_kd t = 18) (hs : st.length ≤ 4) : Rs L xs (d + 1) 319 5 ls (.ref t :: st) M x = (Rs L xs d 239 0 [some (.ref t)] [] M 0).bind (qx_kn L xs (d + 1) 319 5 8 239 ls st x) := by
  have h1 : qx_act L xs (qx_rt 319) (5, .invokevirtual 384, 8, 239, 1, 2193) ls (.ref t :: st) M = if 1 ≤ (.ref t :: st).length ∧ st.length ≤ 4 then some (.inr (.inr (.inr (239, [.ref t], st)))) else none := rfl
  rw [if_pos ⟨by simp [List.length_cons]; try omega, hs⟩] at h1
  have h2 := qx_kd_obj (k := 8) (by decide) hk
  exact Rs_call c319_5 h1 (by rw [show qx_args 239 [.ref t] = decide (qx_sh t = some (.inl 8)) from rfl]; exact decide_eq_true h2)
theorem c319_8 : qx_code 319 8 = some (8, .return_, 9, 0, 0, 0) := by decide +kernel
theorem s319_8 {L : Nat} {xs : Nat → Int32} {d x : Nat} {M : qxM} {ls : qxL} : Rs L xs (d) 319 8 ls [] M x = some (.inl none, M, x) := Rs_ret c319_8 rfl
theorem c320_0 : qx_code 320 0 = some (0, .aload_n 0, 1, 0, 0, 0) := by decide +kernel
theorem s320_0 {L : Nat} {xs : Nat → Int32} {d x : Nat} {M : qxM} {st : List Value} {a1 a2 : Option Value} {z : Nat} : Rs L xs (d) 320 0 [some (.ref z), a1, a2] st M x = Rs L xs (d) 320 1 [some (.ref z), a1, a2] (.ref z :: st) M x := Rs_next c320_0 rfl
theorem c320_1 : qx_code 320 1 = some (1, .getfield 187, 4, 8, 6, 1551) := by decide +kernel
theorem s320_1 {L : Nat} {xs : Nat → Int32} {d x : Nat} {M : qxM} {st : List Value} {ls : qxL} {t : Nat} (hk : qx_kd t = 18) : Rs L xs (d) 320 1 ls (.ref t :: st) M x = Rs L xs (d) 320 4 ls (.int (M.1 t 6) :: st) M x := Rs_when (qx_kd_obj (k := 8) (by decide) hk) c320_1 rfl
theorem c320_4 : qx_code 320 4 = some (4, .ifCond .eq 15, 7, 19, 0, 0) := by decide +kernel
theorem s320_4 {L : Nat} {xs : Nat → Int32} {d x : Nat} {M : qxM} {st : List Value} {ls : qxL} {z : Int32} : Rs L xs (d) 320 4 ls (.int z :: st) M x = if z = 0 then Rs L xs (d) 320 19 ls st M x else Rs L xs (d) 320 7 ls st M x := Rs_ite c320_4 rfl
theorem c320_7 : qx_code 320 7 = some (7, .aload_n 0, 8, 0, 0, 0) := by decide +kernel
theorem s320_7 {L : Nat} {xs : Nat → Int32} {d x : Nat} {M : qxM} {st : List Value} {a1 a2 : Option Value} {z : Nat} : Rs L xs (d) 320 7 [some (.ref z), a1, a2] st M x = Rs L xs (d) 320 8 [some (.ref z), a1, a2] (.ref z :: st) M x := Rs_next c320_7 rfl
theorem c320_8 : qx_code 320 8 = some (8, .iload_n 1, 9, 0, 0, 0) := by decide +kernel
theorem s320_8 {L : Nat} {xs : Nat → Int32} {d x : Nat} {M : qxM} {st : List Value} {a0 a2 : Option Value} {z : Int32} : Rs L xs (d) 320 8 [a0, some (.int z), a2] st M x = Rs L xs (d) 320 9 [a0, some (.int z), a2] (.int z :: st) M x := Rs_next c320_8 rfl
theorem c320_9 : qx_code 320 9 = some (9, .invokevirtual 226, 12, 211, 2, 1803) := by decide +kernel
theorem s320_9 {L : Nat} {xs : Nat → Int32} {d x : Nat} {M : qxM} {st : List Value} {ls : qxL} {t : Nat} {z0 : Int32} (hk : qx_kd t = 18) (hs : st.length ≤ 4) : Rs L xs (d + 1) 320 9 ls (.int z0 :: .ref t :: st) M x = (Rs L xs d 211 0 [some (.ref t), some (.int z0)] [] M 0).bind (qx_kn L xs (d + 1) 320 9 12 211 ls st x) := by
  have h1 : qx_act L xs (qx_rt 320) (9, .invokevirtual 226, 12, 211, 2, 1803) ls (.int z0 :: .ref t :: st) M = if 2 ≤ (.int z0 :: .ref t :: st).length ∧ st.length ≤ 4 then some (.inr (.inr (.inr (211, [.ref t, .int z0], st)))) else none := rfl
  rw [if_pos ⟨by simp [List.length_cons]; try omega, hs⟩] at h1
  have h2 := qx_kd_obj (k := 8) (by decide) hk
  exact Rs_call c320_9 h1 (by rw [show qx_args 211 [.ref t, .int z0] = decide (qx_sh t = some (.inl 8)) from rfl]; exact decide_eq_true h2)
theorem c320_12 : qx_code 320 12 = some (12, .ifCond .eq 7, 15, 19, 0, 0) := by decide +kernel
theorem s320_12 {L : Nat} {xs : Nat → Int32} {d x : Nat} {M : qxM} {st : List Value} {ls : qxL} {z : Int32} : Rs L xs (d) 320 12 ls (.int z :: st) M x = if z = 0 then Rs L xs (d) 320 19 ls st M x else Rs L xs (d) 320 15 ls st M x := Rs_ite c320_12 rfl
theorem c320_15 : qx_code 320 15 = some (15, .iconst 1, 16, 0, 0, 0) := by decide +kernel
theorem s320_15 {L : Nat} {xs : Nat → Int32} {d x : Nat} {M : qxM} {st : List Value} {ls : qxL} : Rs L xs (d) 320 15 ls st M x = Rs L xs (d) 320 16 ls (.int (nI 1) :: st) M x := Rs_next c320_15 rfl
theorem c320_16 : qx_code 320 16 = some (16, .goto 4, 19, 20, 0, 0) := by decide +kernel
theorem s320_16 {L : Nat} {xs : Nat → Int32} {d x : Nat} {M : qxM} {st : List Value} {ls : qxL} : Rs L xs (d) 320 16 ls st M x = Rs L xs (d) 320 20 ls st M x := Rs_next c320_16 rfl
theorem c320_19 : qx_code 320 19 = some (19, .iconst 0, 20, 0, 0, 0) := by decide +kernel
theorem s320_19 {L : Nat} {xs : Nat → Int32} {d x : Nat} {M : qxM} {st : List Value} {ls : qxL} : Rs L xs (d) 320 19 ls st M x = Rs L xs (d) 320 20 ls (.int (nI 0) :: st) M x := Rs_next c320_19 rfl
theorem c320_20 : qx_code 320 20 = some (20, .istore_n 2, 21, 0, 0, 0) := by decide +kernel
theorem s320_20i {L : Nat} {xs : Nat → Int32} {d x : Nat} {M : qxM} {st : List Value} {a0 a2 : Option Value} {z : Int32} {y : Int32} : Rs L xs (d) 320 20 [a0, some (.int y), a2] (.int z :: st) M x = Rs L xs (d) 320 21 [a0, some (.int y), some (.int z)] st M x := Rs_next c320_20 rfl
theorem s320_20r {L : Nat} {xs : Nat → Int32} {d x : Nat} {M : qxM} {st : List Value} {a0 a2 : Option Value} {z : Int32} {y : Nat} : Rs L xs (d) 320 20 [a0, some (.ref y), a2] (.int z :: st) M x = Rs L xs (d) 320 21 [a0, some (.ref y), some (.int z)] st M x := Rs_next c320_20 rfl
theorem s320_20n {L : Nat} {xs : Nat → Int32} {d x : Nat} {M : qxM} {st : List Value} {a0 a2 : Option Value} {z : Int32} : Rs L xs (d) 320 20 [a0, none, a2] (.int z :: st) M x = Rs L xs (d) 320 21 [a0, none, some (.int z)] st M x := Rs_next c320_20 rfl
theorem c320_21 : qx_code 320 21 = some (21, .aload_n 0, 22, 0, 0, 0) := by decide +kernel
theorem s320_21 {L : Nat} {xs : Nat → Int32} {d x : Nat} {M : qxM} {st : List Value} {a1 a2 : Option Value} {z : Nat} : Rs L xs (d) 320 21 [some (.ref z), a1, a2] st M x = Rs L xs (d) 320 22 [some (.ref z), a1, a2] (.ref z :: st) M x := Rs_next c320_21 rfl
theorem c320_22 : qx_code 320 22 = some (22, .aload_n 0, 23, 0, 0, 0) := by decide +kernel
theorem s320_22 {L : Nat} {xs : Nat → Int32} {d x : Nat} {M : qxM} {st : List Value} {a1 a2 : Option Value} {z : Nat} : Rs L xs (d) 320 22 [some (.ref z), a1, a2] st M x = Rs L xs (d) 320 23 [some (.ref z), a1, a2] (.ref z :: st) M x := Rs_next c320_22 rfl
theorem c320_23 : qx_code 320 23 = some (23, .getfield 187, 26, 8, 6, 1551) := by decide +kernel
theorem s320_23 {L : Nat} {xs : Nat → Int32} {d x : Nat} {M : qxM} {st : List Value} {ls : qxL} {t : Nat} (hk : qx_kd t = 18) : Rs L xs (d) 320 23 ls (.ref t :: st) M x = Rs L xs (d) 320 26 ls (.int (M.1 t 6) :: st) M x := Rs_when (qx_kd_obj (k := 8) (by decide) hk) c320_23 rfl
theorem c320_26 : qx_code 320 26 = some (26, .iload_n 2, 27, 0, 0, 0) := by decide +kernel
theorem s320_26 {L : Nat} {xs : Nat → Int32} {d x : Nat} {M : qxM} {st : List Value} {a0 a1 : Option Value} {z : Int32} : Rs L xs (d) 320 26 [a0, a1, some (.int z)] st M x = Rs L xs (d) 320 27 [a0, a1, some (.int z)] (.int z :: st) M x := Rs_next c320_26 rfl
theorem c320_27 : qx_code 320 27 = some (27, .iload_n 2, 28, 0, 0, 0) := by decide +kernel
theorem s320_27 {L : Nat} {xs : Nat → Int32} {d x : Nat} {M : qxM} {st : List Value} {a0 a1 : Option Value} {z : Int32} : Rs L xs (d) 320 27 [a0, a1, some (.int z)] st M x = Rs L xs (d) 320 28 [a0, a1, some (.int z)] (.int z :: st) M x := Rs_next c320_27 rfl
theorem c320_28 : qx_code 320 28 = some (28, .ifCond .eq 16, 31, 44, 0, 0) := by decide +kernel
theorem s320_28 {L : Nat} {xs : Nat → Int32} {d x : Nat} {M : qxM} {st : List Value} {ls : qxL} {z : Int32} : Rs L xs (d) 320 28 ls (.int z :: st) M x = if z = 0 then Rs L xs (d) 320 44 ls st M x else Rs L xs (d) 320 31 ls st M x := Rs_ite c320_28 rfl
theorem c320_31 : qx_code 320 31 = some (31, .aload_n 0, 32, 0, 0, 0) := by decide +kernel
theorem s320_31 {L : Nat} {xs : Nat → Int32} {d x : Nat} {M : qxM} {st : List Value} {a1 a2 : Option Value} {z : Nat} : Rs L xs (d) 320 31 [some (.ref z), a1, a2] st M x = Rs L xs (d) 320 32 [some (.ref z), a1, a2] (.ref z :: st) M x := Rs_next c320_31 rfl
theorem c320_32 : qx_code 320 32 = some (32, .iload_n 1, 33, 0, 0, 0) := by decide +kernel
theorem s320_32 {L : Nat} {xs : Nat → Int32} {d x : Nat} {M : qxM} {st : List Value} {a0 a2 : Option Value} {z : Int32} : Rs L xs (d) 320 32 [a0, some (.int z), a2] st M x = Rs L xs (d) 320 33 [a0, some (.int z), a2] (.int z :: st) M x := Rs_next c320_32 rfl
theorem c320_33 : qx_code 320 33 = some (33, .invokevirtual 132, 36, 213, 2, 1737) := by decide +kernel
theorem s320_33 {L : Nat} {xs : Nat → Int32} {d x : Nat} {M : qxM} {st : List Value} {ls : qxL} {t : Nat} {z0 : Int32} (hk : qx_kd t = 18) (hs : st.length ≤ 4) : Rs L xs (d + 1) 320 33 ls (.int z0 :: .ref t :: st) M x = (Rs L xs d 213 0 [some (.ref t), some (.int z0)] [] M 0).bind (qx_kn L xs (d + 1) 320 33 36 213 ls st x) := by
  have h1 : qx_act L xs (qx_rt 320) (33, .invokevirtual 132, 36, 213, 2, 1737) ls (.int z0 :: .ref t :: st) M = if 2 ≤ (.int z0 :: .ref t :: st).length ∧ st.length ≤ 4 then some (.inr (.inr (.inr (213, [.ref t, .int z0], st)))) else none := rfl
  rw [if_pos ⟨by simp [List.length_cons]; try omega, hs⟩] at h1
  have h2 := qx_kd_obj (k := 8) (by decide) hk
  exact Rs_call c320_33 h1 (by rw [show qx_args 213 [.ref t, .int z0] = decide (qx_sh t = some (.inl 8)) from rfl]; exact decide_eq_true h2)
theorem c320_36 : qx_code 320 36 = some (36, .iconst (-1), 37, 0, 0, 0) := by decide +kernel
theorem s320_36 {L : Nat} {xs : Nat → Int32} {d x : Nat} {M : qxM} {st : List Value} {ls : qxL} : Rs L xs (d) 320 36 ls st M x = Rs L xs (d) 320 37 ls (.int (-1) :: st) M x := Rs_next c320_36 rfl
theorem c320_37 : qx_code 320 37 = some (37, .if_icmp .ne 7, 40, 44, 0, 0) := by decide +kernel
theorem s320_37 {L : Nat} {xs : Nat → Int32} {d x : Nat} {M : qxM} {st : List Value} {ls : qxL} {z y : Int32} : Rs L xs (d) 320 37 ls (.int y :: .int z :: st) M x = if z = y then Rs L xs (d) 320 40 ls st M x else Rs L xs (d) 320 44 ls st M x := Rs_ite c320_37 rfl
theorem c320_40 : qx_code 320 40 = some (40, .iconst 1, 41, 0, 0, 0) := by decide +kernel
theorem s320_40 {L : Nat} {xs : Nat → Int32} {d x : Nat} {M : qxM} {st : List Value} {ls : qxL} : Rs L xs (d) 320 40 ls st M x = Rs L xs (d) 320 41 ls (.int (nI 1) :: st) M x := Rs_next c320_40 rfl
theorem c320_41 : qx_code 320 41 = some (41, .goto 4, 44, 45, 0, 0) := by decide +kernel
theorem s320_41 {L : Nat} {xs : Nat → Int32} {d x : Nat} {M : qxM} {st : List Value} {ls : qxL} : Rs L xs (d) 320 41 ls st M x = Rs L xs (d) 320 45 ls st M x := Rs_next c320_41 rfl
theorem c320_44 : qx_code 320 44 = some (44, .iconst 0, 45, 0, 0, 0) := by decide +kernel
theorem s320_44 {L : Nat} {xs : Nat → Int32} {d x : Nat} {M : qxM} {st : List Value} {ls : qxL} : Rs L xs (d) 320 44 ls st M x = Rs L xs (d) 320 45 ls (.int (nI 0) :: st) M x := Rs_next c320_44 rfl
theorem c320_45 : qx_code 320 45 = some (45, .invokevirtual 49, 48, 180, 4, 1644) := by decide +kernel
theorem s320_45 {L : Nat} {xs : Nat → Int32} {d x : Nat} {M : qxM} {st : List Value} {ls : qxL} {t : Nat} {z0 : Int32} {z1 : Int32} {z2 : Int32} (hk : qx_kd t = 18) (hs : st.length ≤ 4) : Rs L xs (d + 1) 320 45 ls (.int z2 :: .int z1 :: .int z0 :: .ref t :: st) M x = (Rs L xs d 180 0 [some (.ref t), some (.int z0), some (.int z1), some (.int z2)] [] M 0).bind (qx_kn L xs (d + 1) 320 45 48 180 ls st x) := by
  have h1 : qx_act L xs (qx_rt 320) (45, .invokevirtual 49, 48, 180, 4, 1644) ls (.int z2 :: .int z1 :: .int z0 :: .ref t :: st) M = if 4 ≤ (.int z2 :: .int z1 :: .int z0 :: .ref t :: st).length ∧ st.length ≤ 4 then some (.inr (.inr (.inr (180, [.ref t, .int z0, .int z1, .int z2], st)))) else none := rfl
  rw [if_pos ⟨by simp [List.length_cons]; try omega, hs⟩] at h1
  have h2 := qx_kd_obj (k := 8) (by decide) hk
  exact Rs_call c320_45 h1 (by rw [show qx_args 180 [.ref t, .int z0, .int z1, .int z2] = decide (qx_sh t = some (.inl 8)) from rfl]; exact decide_eq_true h2)
theorem c320_48 : qx_code 320 48 = some (48, .ifCond .ne 5, 51, 53, 0, 0) := by decide +kernel
theorem s320_48 {L : Nat} {xs : Nat → Int32} {d x : Nat} {M : qxM} {st : List Value} {ls : qxL} {z : Int32} : Rs L xs (d) 320 48 ls (.int z :: st) M x = if z = 0 then Rs L xs (d) 320 51 ls st M x else Rs L xs (d) 320 53 ls st M x := Rs_ite c320_48 rfl
theorem c320_51 : qx_code 320 51 = some (51, .iconst 0, 52, 0, 0, 0) := by decide +kernel
theorem s320_51 {L : Nat} {xs : Nat → Int32} {d x : Nat} {M : qxM} {st : List Value} {ls : qxL} : Rs L xs (d) 320 51 ls st M x = Rs L xs (d) 320 52 ls (.int (nI 0) :: st) M x := Rs_next c320_51 rfl
theorem c320_52 : qx_code 320 52 = some (52, .ireturn, 53, 0, 0, 0) := by decide +kernel
theorem s320_52 {L : Nat} {xs : Nat → Int32} {d x : Nat} {M : qxM} {ls : qxL} {z : Int32} : Rs L xs (d) 320 52 ls [.int z] M x = some (.inl (some (.int z)), M, x) := Rs_ret c320_52 rfl
theorem c320_53 : qx_code 320 53 = some (53, .aload_n 0, 54, 0, 0, 0) := by decide +kernel
theorem s320_53 {L : Nat} {xs : Nat → Int32} {d x : Nat} {M : qxM} {st : List Value} {a1 a2 : Option Value} {z : Nat} : Rs L xs (d) 320 53 [some (.ref z), a1, a2] st M x = Rs L xs (d) 320 54 [some (.ref z), a1, a2] (.ref z :: st) M x := Rs_next c320_53 rfl
theorem c320_54 : qx_code 320 54 = some (54, .invokevirtual 381, 57, 318, 1, 2177) := by decide +kernel
theorem s320_54 {L : Nat} {xs : Nat → Int32} {d x : Nat} {M : qxM} {st : List Value} {ls : qxL} {t : Nat} (hk : qx_kd t = 18) (hs : st.length ≤ 4) : Rs L xs (d + 1) 320 54 ls (.ref t :: st) M x = (Rs L xs d 318 0 [some (.ref t), none] [] M 0).bind (qx_kn L xs (d + 1) 320 54 57 318 ls st x) := by
  have h1 : qx_act L xs (qx_rt 320) (54, .invokevirtual 381, 57, 318, 1, 2177) ls (.ref t :: st) M = if 1 ≤ (.ref t :: st).length ∧ st.length ≤ 4 then some (.inr (.inr (.inr (318, [.ref t], st)))) else none := rfl
  rw [if_pos ⟨by simp [List.length_cons]; try omega, hs⟩] at h1
  have h2 := qx_kd_obj (k := 8) (by decide) hk
  exact Rs_call c320_54 h1 (by rw [show qx_args 318 [.ref t] = decide (qx_sh t = some (.inl 8)) from rfl]; exact decide_eq_true h2)
theorem c320_57 : qx_code 320 57 = some (57, .aload_n 0, 58, 0, 0, 0) := by decide +kernel
theorem s320_57 {L : Nat} {xs : Nat → Int32} {d x : Nat} {M : qxM} {st : List Value} {a1 a2 : Option Value} {z : Nat} : Rs L xs (d) 320 57 [some (.ref z), a1, a2] st M x = Rs L xs (d) 320 58 [some (.ref z), a1, a2] (.ref z :: st) M x := Rs_next c320_57 rfl
theorem c320_58 : qx_code 320 58 = some (58, .iload_n 1, 59, 0, 0, 0) := by decide +kernel
theorem s320_58 {L : Nat} {xs : Nat → Int32} {d x : Nat} {M : qxM} {st : List Value} {a0 a2 : Option Value} {z : Int32} : Rs L xs (d) 320 58 [a0, some (.int z), a2] st M x = Rs L xs (d) 320 59 [a0, some (.int z), a2] (.int z :: st) M x := Rs_next c320_58 rfl
theorem c320_59 : qx_code 320 59 = some (59, .invokevirtual 363, 62, 238, 2, 2073) := by decide +kernel
theorem s320_59 {L : Nat} {xs : Nat → Int32} {d x : Nat} {M : qxM} {st : List Value} {ls : qxL} {t : Nat} {z0 : Int32} (hk : qx_kd t = 18) (hs : st.length ≤ 4) : Rs L xs (d + 1) 320 59 ls (.int z0 :: .ref t :: st) M x = (Rs L xs d 238 0 [some (.ref t), some (.int z0), none] [] M 0).bind (qx_kn L xs (d + 1) 320 59 62 238 ls st x) := by
  have h1 : qx_act L xs (qx_rt 320) (59, .invokevirtual 363, 62, 238, 2, 2073) ls (.int z0 :: .ref t :: st) M = if 2 ≤ (.int z0 :: .ref t :: st).length ∧ st.length ≤ 4 then some (.inr (.inr (.inr (238, [.ref t, .int z0], st)))) else none := rfl
  rw [if_pos ⟨by simp [List.length_cons]; try omega, hs⟩] at h1
  have h2 := qx_kd_obj (k := 8) (by decide) hk
  exact Rs_call c320_59 h1 (by rw [show qx_args 238 [.ref t, .int z0] = decide (qx_sh t = some (.inl 8)) from rfl]; exact decide_eq_true h2)
theorem c320_62 : qx_code 320 62 = some (62, .aload_n 0, 63, 0, 0, 0) := by decide +kernel
theorem s320_62 {L : Nat} {xs : Nat → Int32} {d x : Nat} {M : qxM} {st : List Value} {a1 a2 : Option Value} {z : Nat} : Rs L xs (d) 320 62 [some (.ref z), a1, a2] st M x = Rs L xs (d) 320 63 [some (.ref z), a1, a2] (.ref z :: st) M x := Rs_next c320_62 rfl
theorem c320_63 : qx_code 320 63 = some (63, .iload_n 1, 64, 0, 0, 0) := by decide +kernel
theorem s320_63 {L : Nat} {xs : Nat → Int32} {d x : Nat} {M : qxM} {st : List Value} {a0 a2 : Option Value} {z : Int32} : Rs L xs (d) 320 63 [a0, some (.int z), a2] st M x = Rs L xs (d) 320 64 [a0, some (.int z), a2] (.int z :: st) M x := Rs_next c320_63 rfl
theorem c320_64 : qx_code 320 64 = some (64, .invokevirtual 210, 67, 220, 2, 1781) := by decide +kernel
theorem s320_64 {L : Nat} {xs : Nat → Int32} {d x : Nat} {M : qxM} {st : List Value} {ls : qxL} {t : Nat} {z0 : Int32} (hk : qx_kd t = 18) (hs : st.length ≤ 4) : Rs L xs (d + 1) 320 64 ls (.int z0 :: .ref t :: st) M x = (Rs L xs d 220 0 [some (.ref t), some (.int z0), none, none] [] M 0).bind (qx_kn L xs (d + 1) 320 64 67 220 ls st x) := by
  have h1 : qx_act L xs (qx_rt 320) (64, .invokevirtual 210, 67, 220, 2, 1781) ls (.int z0 :: .ref t :: st) M = if 2 ≤ (.int z0 :: .ref t :: st).length ∧ st.length ≤ 4 then some (.inr (.inr (.inr (220, [.ref t, .int z0], st)))) else none := rfl
  rw [if_pos ⟨by simp [List.length_cons]; try omega, hs⟩] at h1
  have h2 := qx_kd_obj (k := 8) (by decide) hk
  exact Rs_call c320_64 h1 (by rw [show qx_args 220 [.ref t, .int z0] = decide (qx_sh t = some (.inl 8)) from rfl]; exact decide_eq_true h2)
theorem c320_67 : qx_code 320 67 = some (67, .invokestatic 194, 70, 209, 1, 1788) := by decide +kernel
theorem s320_67 {L : Nat} {xs : Nat → Int32} {d x : Nat} {M : qxM} {st : List Value} {ls : qxL} {z0 : Int32} (hs : st.length ≤ 4) : Rs L xs (d + 1) 320 67 ls (.int z0 :: st) M x = (Rs L xs d 209 0 [some (.int z0), none, none] [] M 0).bind (qx_kn L xs (d + 1) 320 67 70 209 ls st x) := by
  have h1 : qx_act L xs (qx_rt 320) (67, .invokestatic 194, 70, 209, 1, 1788) ls (.int z0 :: st) M = if 1 ≤ (.int z0 :: st).length ∧ st.length ≤ 4 then some (.inr (.inr (.inr (209, [.int z0], st)))) else none := rfl
  rw [if_pos ⟨by simp [List.length_cons]; try omega, hs⟩] at h1
  exact Rs_call c320_67 h1 rfl
theorem c320_70 : qx_code 320 70 = some (70, .ireturn, 71, 0, 0, 0) := by decide +kernel
theorem s320_70 {L : Nat} {xs : Nat → Int32} {d x : Nat} {M : qxM} {ls : qxL} {z : Int32} : Rs L xs (d) 320 70 ls [.int z] M x = some (.inl (some (.int z)), M, x) := Rs_ret c320_70 rfl
theorem c321_0 : qx_code 321 0 = some (0, .aload_n 0, 1, 0, 0, 0) := by decide +kernel
theorem s321_0 {L : Nat} {xs : Nat → Int32} {d x : Nat} {M : qxM} {st : List Value} {z : Nat} : Rs L xs (d) 321 0 [some (.ref z)] st M x = Rs L xs (d) 321 1 [some (.ref z)] (.ref z :: st) M x := Rs_next c321_0 rfl
theorem c321_1 : qx_code 321 1 = some (1, .aload_n 0, 2, 0, 0, 0) := by decide +kernel
theorem s321_1 {L : Nat} {xs : Nat → Int32} {d x : Nat} {M : qxM} {st : List Value} {z : Nat} : Rs L xs (d) 321 1 [some (.ref z)] st M x = Rs L xs (d) 321 2 [some (.ref z)] (.ref z :: st) M x := Rs_next c321_1 rfl
theorem c321_2 : qx_code 321 2 = some (2, .getfield 187, 5, 8, 6, 1551) := by decide +kernel
theorem s321_2 {L : Nat} {xs : Nat → Int32} {d x : Nat} {M : qxM} {st : List Value} {ls : qxL} {t : Nat} (hk : qx_kd t = 18) : Rs L xs (d) 321 2 ls (.ref t :: st) M x = Rs L xs (d) 321 5 ls (.int (M.1 t 6) :: st) M x := Rs_when (qx_kd_obj (k := 8) (by decide) hk) c321_2 rfl
theorem c321_5 : qx_code 321 5 = some (5, .aload_n 0, 6, 0, 0, 0) := by decide +kernel
theorem s321_5 {L : Nat} {xs : Nat → Int32} {d x : Nat} {M : qxM} {st : List Value} {z : Nat} : Rs L xs (d) 321 5 [some (.ref z)] st M x = Rs L xs (d) 321 6 [some (.ref z)] (.ref z :: st) M x := Rs_next c321_5 rfl
theorem c321_6 : qx_code 321 6 = some (6, .invokevirtual 284, 9, 250, 1, 1890) := by decide +kernel
theorem s321_6 {L : Nat} {xs : Nat → Int32} {d x : Nat} {M : qxM} {st : List Value} {ls : qxL} {t : Nat} (hk : qx_kd t = 18) (hs : st.length ≤ 4) : Rs L xs (d + 1) 321 6 ls (.ref t :: st) M x = (Rs L xs d 250 0 [some (.ref t)] [] M 0).bind (qx_kn L xs (d + 1) 321 6 9 250 ls st x) := by
  have h1 : qx_act L xs (qx_rt 321) (6, .invokevirtual 284, 9, 250, 1, 1890) ls (.ref t :: st) M = if 1 ≤ (.ref t :: st).length ∧ st.length ≤ 4 then some (.inr (.inr (.inr (250, [.ref t], st)))) else none := rfl
  rw [if_pos ⟨by simp [List.length_cons]; try omega, hs⟩] at h1
  have h2 := qx_kd_obj (k := 8) (by decide) hk
  exact Rs_call c321_6 h1 (by rw [show qx_args 250 [.ref t] = decide (qx_sh t = some (.inl 8)) from rfl]; exact decide_eq_true h2)
theorem c321_9 : qx_code 321 9 = some (9, .invokevirtual 216, 12, 181, 3, 1773) := by decide +kernel
theorem s321_9 {L : Nat} {xs : Nat → Int32} {d x : Nat} {M : qxM} {st : List Value} {ls : qxL} {t : Nat} {z0 : Int32} {z1 : Int32} (hk : qx_kd t = 18) (hs : st.length ≤ 4) : Rs L xs (d + 1) 321 9 ls (.int z1 :: .int z0 :: .ref t :: st) M x = (Rs L xs d 181 0 [some (.ref t), some (.int z0), some (.int z1)] [] M 0).bind (qx_kn L xs (d + 1) 321 9 12 181 ls st x) := by
  have h1 : qx_act L xs (qx_rt 321) (9, .invokevirtual 216, 12, 181, 3, 1773) ls (.int z1 :: .int z0 :: .ref t :: st) M = if 3 ≤ (.int z1 :: .int z0 :: .ref t :: st).length ∧ st.length ≤ 4 then some (.inr (.inr (.inr (181, [.ref t, .int z0, .int z1], st)))) else none := rfl
  rw [if_pos ⟨by simp [List.length_cons]; try omega, hs⟩] at h1
  have h2 := qx_kd_obj (k := 8) (by decide) hk
  exact Rs_call c321_9 h1 (by rw [show qx_args 181 [.ref t, .int z0, .int z1] = decide (qx_sh t = some (.inl 8)) from rfl]; exact decide_eq_true h2)
theorem c321_12 : qx_code 321 12 = some (12, .ifCond .ne 5, 15, 17, 0, 0) := by decide +kernel
theorem s321_12 {L : Nat} {xs : Nat → Int32} {d x : Nat} {M : qxM} {st : List Value} {ls : qxL} {z : Int32} : Rs L xs (d) 321 12 ls (.int z :: st) M x = if z = 0 then Rs L xs (d) 321 15 ls st M x else Rs L xs (d) 321 17 ls st M x := Rs_ite c321_12 rfl
theorem c321_15 : qx_code 321 15 = some (15, .iconst 0, 16, 0, 0, 0) := by decide +kernel
theorem s321_15 {L : Nat} {xs : Nat → Int32} {d x : Nat} {M : qxM} {st : List Value} {ls : qxL} : Rs L xs (d) 321 15 ls st M x = Rs L xs (d) 321 16 ls (.int (nI 0) :: st) M x := Rs_next c321_15 rfl
theorem c321_16 : qx_code 321 16 = some (16, .ireturn, 17, 0, 0, 0) := by decide +kernel
theorem s321_16 {L : Nat} {xs : Nat → Int32} {d x : Nat} {M : qxM} {ls : qxL} {z : Int32} : Rs L xs (d) 321 16 ls [.int z] M x = some (.inl (some (.int z)), M, x) := Rs_ret c321_16 rfl
theorem c321_17 : qx_code 321 17 = some (17, .aload_n 0, 18, 0, 0, 0) := by decide +kernel
theorem s321_17 {L : Nat} {xs : Nat → Int32} {d x : Nat} {M : qxM} {st : List Value} {z : Nat} : Rs L xs (d) 321 17 [some (.ref z)] st M x = Rs L xs (d) 321 18 [some (.ref z)] (.ref z :: st) M x := Rs_next c321_17 rfl
theorem c321_18 : qx_code 321 18 = some (18, .invokevirtual 381, 21, 318, 1, 2177) := by decide +kernel
theorem s321_18 {L : Nat} {xs : Nat → Int32} {d x : Nat} {M : qxM} {st : List Value} {ls : qxL} {t : Nat} (hk : qx_kd t = 18) (hs : st.length ≤ 4) : Rs L xs (d + 1) 321 18 ls (.ref t :: st) M x = (Rs L xs d 318 0 [some (.ref t), none] [] M 0).bind (qx_kn L xs (d + 1) 321 18 21 318 ls st x) := by
  have h1 : qx_act L xs (qx_rt 321) (18, .invokevirtual 381, 21, 318, 1, 2177) ls (.ref t :: st) M = if 1 ≤ (.ref t :: st).length ∧ st.length ≤ 4 then some (.inr (.inr (.inr (318, [.ref t], st)))) else none := rfl
  rw [if_pos ⟨by simp [List.length_cons]; try omega, hs⟩] at h1
  have h2 := qx_kd_obj (k := 8) (by decide) hk
  exact Rs_call c321_18 h1 (by rw [show qx_args 318 [.ref t] = decide (qx_sh t = some (.inl 8)) from rfl]; exact decide_eq_true h2)
theorem c321_21 : qx_code 321 21 = some (21, .aload_n 0, 22, 0, 0, 0) := by decide +kernel
theorem s321_21 {L : Nat} {xs : Nat → Int32} {d x : Nat} {M : qxM} {st : List Value} {z : Nat} : Rs L xs (d) 321 21 [some (.ref z)] st M x = Rs L xs (d) 321 22 [some (.ref z)] (.ref z :: st) M x := Rs_next c321_21 rfl
theorem c321_22 : qx_code 321 22 = some (22, .invokevirtual 288, 25, 249, 1, 2093) := by decide +kernel
theorem s321_22 {L : Nat} {xs : Nat → Int32} {d x : Nat} {M : qxM} {st : List Value} {ls : qxL} {t : Nat} (hk : qx_kd t = 18) (hs : st.length ≤ 4) : Rs L xs (d + 1) 321 22 ls (.ref t :: st) M x = (Rs L xs d 249 0 [some (.ref t), none, none] [] M 0).bind (qx_kn L xs (d + 1) 321 22 25 249 ls st x) := by
  have h1 : qx_act L xs (qx_rt 321) (22, .invokevirtual 288, 25, 249, 1, 2093) ls (.ref t :: st) M = if 1 ≤ (.ref t :: st).length ∧ st.length ≤ 4 then some (.inr (.inr (.inr (249, [.ref t], st)))) else none := rfl
  rw [if_pos ⟨by simp [List.length_cons]; try omega, hs⟩] at h1
  have h2 := qx_kd_obj (k := 8) (by decide) hk
  exact Rs_call c321_22 h1 (by rw [show qx_args 249 [.ref t] = decide (qx_sh t = some (.inl 8)) from rfl]; exact decide_eq_true h2)
theorem c321_25 : qx_code 321 25 = some (25, .ireturn, 26, 0, 0, 0) := by decide +kernel
theorem s321_25 {L : Nat} {xs : Nat → Int32} {d x : Nat} {M : qxM} {ls : qxL} {z : Int32} : Rs L xs (d) 321 25 ls [.int z] M x = some (.inl (some (.int z)), M, x) := Rs_ret c321_25 rfl
theorem c322_0 : qx_code 322 0 = some (0, .aload_n 0, 1, 0, 0, 0) := by decide +kernel
theorem s322_0 {L : Nat} {xs : Nat → Int32} {d x : Nat} {M : qxM} {st : List Value} {z : Nat} : Rs L xs (d) 322 0 [some (.ref z)] st M x = Rs L xs (d) 322 1 [some (.ref z)] (.ref z :: st) M x := Rs_next c322_0 rfl
theorem c322_1 : qx_code 322 1 = some (1, .aload_n 0, 2, 0, 0, 0) := by decide +kernel
theorem s322_1 {L : Nat} {xs : Nat → Int32} {d x : Nat} {M : qxM} {st : List Value} {z : Nat} : Rs L xs (d) 322 1 [some (.ref z)] st M x = Rs L xs (d) 322 2 [some (.ref z)] (.ref z :: st) M x := Rs_next c322_1 rfl
theorem c322_2 : qx_code 322 2 = some (2, .getfield 187, 5, 8, 6, 1551) := by decide +kernel
theorem s322_2 {L : Nat} {xs : Nat → Int32} {d x : Nat} {M : qxM} {st : List Value} {ls : qxL} {t : Nat} (hk : qx_kd t = 18) : Rs L xs (d) 322 2 ls (.ref t :: st) M x = Rs L xs (d) 322 5 ls (.int (M.1 t 6) :: st) M x := Rs_when (qx_kd_obj (k := 8) (by decide) hk) c322_2 rfl
theorem c322_5 : qx_code 322 5 = some (5, .aload_n 0, 6, 0, 0, 0) := by decide +kernel
theorem s322_5 {L : Nat} {xs : Nat → Int32} {d x : Nat} {M : qxM} {st : List Value} {z : Nat} : Rs L xs (d) 322 5 [some (.ref z)] st M x = Rs L xs (d) 322 6 [some (.ref z)] (.ref z :: st) M x := Rs_next c322_5 rfl
theorem c322_6 : qx_code 322 6 = some (6, .invokevirtual 284, 9, 250, 1, 1890) := by decide +kernel
theorem s322_6 {L : Nat} {xs : Nat → Int32} {d x : Nat} {M : qxM} {st : List Value} {ls : qxL} {t : Nat} (hk : qx_kd t = 18) (hs : st.length ≤ 4) : Rs L xs (d + 1) 322 6 ls (.ref t :: st) M x = (Rs L xs d 250 0 [some (.ref t)] [] M 0).bind (qx_kn L xs (d + 1) 322 6 9 250 ls st x) := by
  have h1 : qx_act L xs (qx_rt 322) (6, .invokevirtual 284, 9, 250, 1, 1890) ls (.ref t :: st) M = if 1 ≤ (.ref t :: st).length ∧ st.length ≤ 4 then some (.inr (.inr (.inr (250, [.ref t], st)))) else none := rfl
  rw [if_pos ⟨by simp [List.length_cons]; try omega, hs⟩] at h1
  have h2 := qx_kd_obj (k := 8) (by decide) hk
  exact Rs_call c322_6 h1 (by rw [show qx_args 250 [.ref t] = decide (qx_sh t = some (.inl 8)) from rfl]; exact decide_eq_true h2)
theorem c322_9 : qx_code 322 9 = some (9, .invokevirtual 216, 12, 181, 3, 1773) := by decide +kernel
theorem s322_9 {L : Nat} {xs : Nat → Int32} {d x : Nat} {M : qxM} {st : List Value} {ls : qxL} {t : Nat} {z0 : Int32} {z1 : Int32} (hk : qx_kd t = 18) (hs : st.length ≤ 4) : Rs L xs (d + 1) 322 9 ls (.int z1 :: .int z0 :: .ref t :: st) M x = (Rs L xs d 181 0 [some (.ref t), some (.int z0), some (.int z1)] [] M 0).bind (qx_kn L xs (d + 1) 322 9 12 181 ls st x) := by
  have h1 : qx_act L xs (qx_rt 322) (9, .invokevirtual 216, 12, 181, 3, 1773) ls (.int z1 :: .int z0 :: .ref t :: st) M = if 3 ≤ (.int z1 :: .int z0 :: .ref t :: st).length ∧ st.length ≤ 4 then some (.inr (.inr (.inr (181, [.ref t, .int z0, .int z1], st)))) else none := rfl
  rw [if_pos ⟨by simp [List.length_cons]; try omega, hs⟩] at h1
  have h2 := qx_kd_obj (k := 8) (by decide) hk
  exact Rs_call c322_9 h1 (by rw [show qx_args 181 [.ref t, .int z0, .int z1] = decide (qx_sh t = some (.inl 8)) from rfl]; exact decide_eq_true h2)
theorem c322_12 : qx_code 322 12 = some (12, .ifCond .ne 5, 15, 17, 0, 0) := by decide +kernel
theorem s322_12 {L : Nat} {xs : Nat → Int32} {d x : Nat} {M : qxM} {st : List Value} {ls : qxL} {z : Int32} : Rs L xs (d) 322 12 ls (.int z :: st) M x = if z = 0 then Rs L xs (d) 322 15 ls st M x else Rs L xs (d) 322 17 ls st M x := Rs_ite c322_12 rfl
theorem c322_15 : qx_code 322 15 = some (15, .iconst 0, 16, 0, 0, 0) := by decide +kernel
theorem s322_15 {L : Nat} {xs : Nat → Int32} {d x : Nat} {M : qxM} {st : List Value} {ls : qxL} : Rs L xs (d) 322 15 ls st M x = Rs L xs (d) 322 16 ls (.int (nI 0) :: st) M x := Rs_next c322_15 rfl
theorem c322_16 : qx_code 322 16 = some (16, .ireturn, 17, 0, 0, 0) := by decide +kernel
theorem s322_16 {L : Nat} {xs : Nat → Int32} {d x : Nat} {M : qxM} {ls : qxL} {z : Int32} : Rs L xs (d) 322 16 ls [.int z] M x = some (.inl (some (.int z)), M, x) := Rs_ret c322_16 rfl
theorem c322_17 : qx_code 322 17 = some (17, .aload_n 0, 18, 0, 0, 0) := by decide +kernel
theorem s322_17 {L : Nat} {xs : Nat → Int32} {d x : Nat} {M : qxM} {st : List Value} {z : Nat} : Rs L xs (d) 322 17 [some (.ref z)] st M x = Rs L xs (d) 322 18 [some (.ref z)] (.ref z :: st) M x := Rs_next c322_17 rfl
theorem c322_18 : qx_code 322 18 = some (18, .invokevirtual 381, 21, 318, 1, 2177) := by decide +kernel
theorem s322_18 {L : Nat} {xs : Nat → Int32} {d x : Nat} {M : qxM} {st : List Value} {ls : qxL} {t : Nat} (hk : qx_kd t = 18) (hs : st.length ≤ 4) : Rs L xs (d + 1) 322 18 ls (.ref t :: st) M x = (Rs L xs d 318 0 [some (.ref t), none] [] M 0).bind (qx_kn L xs (d + 1) 322 18 21 318 ls st x) := by
  have h1 : qx_act L xs (qx_rt 322) (18, .invokevirtual 381, 21, 318, 1, 2177) ls (.ref t :: st) M = if 1 ≤ (.ref t :: st).length ∧ st.length ≤ 4 then some (.inr (.inr (.inr (318, [.ref t], st)))) else none := rfl
  rw [if_pos ⟨by simp [List.length_cons]; try omega, hs⟩] at h1
  have h2 := qx_kd_obj (k := 8) (by decide) hk
  exact Rs_call c322_18 h1 (by rw [show qx_args 318 [.ref t] = decide (qx_sh t = some (.inl 8)) from rfl]; exact decide_eq_true h2)
theorem c322_21 : qx_code 322 21 = some (21, .aload_n 0, 22, 0, 0, 0) := by decide +kernel
theorem s322_21 {L : Nat} {xs : Nat → Int32} {d x : Nat} {M : qxM} {st : List Value} {z : Nat} : Rs L xs (d) 322 21 [some (.ref z)] st M x = Rs L xs (d) 322 22 [some (.ref z)] (.ref z :: st) M x := Rs_next c322_21 rfl
theorem c322_22 : qx_code 322 22 = some (22, .invokevirtual 366, 25, 251, 1, 2089) := by decide +kernel
theorem s322_22 {L : Nat} {xs : Nat → Int32} {d x : Nat} {M : qxM} {st : List Value} {ls : qxL} {t : Nat} (hk : qx_kd t = 18) (hs : st.length ≤ 4) : Rs L xs (d + 1) 322 22 ls (.ref t :: st) M x = (Rs L xs d 251 0 [some (.ref t), none, none] [] M 0).bind (qx_kn L xs (d + 1) 322 22 25 251 ls st x) := by
  have h1 : qx_act L xs (qx_rt 322) (22, .invokevirtual 366, 25, 251, 1, 2089) ls (.ref t :: st) M = if 1 ≤ (.ref t :: st).length ∧ st.length ≤ 4 then some (.inr (.inr (.inr (251, [.ref t], st)))) else none := rfl
  rw [if_pos ⟨by simp [List.length_cons]; try omega, hs⟩] at h1
  have h2 := qx_kd_obj (k := 8) (by decide) hk
  exact Rs_call c322_22 h1 (by rw [show qx_args 251 [.ref t] = decide (qx_sh t = some (.inl 8)) from rfl]; exact decide_eq_true h2)
theorem c322_25 : qx_code 322 25 = some (25, .ireturn, 26, 0, 0, 0) := by decide +kernel
theorem s322_25 {L : Nat} {xs : Nat → Int32} {d x : Nat} {M : qxM} {ls : qxL} {z : Int32} : Rs L xs (d) 322 25 ls [.int z] M x = some (.inl (some (.int z)), M, x) := Rs_ret c322_25 rfl
theorem c323_0 : qx_code 323 0 = some (0, .aload_n 0, 1, 0, 0, 0) := by decide +kernel
theorem s323_0 {L : Nat} {xs : Nat → Int32} {d x : Nat} {M : qxM} {st : List Value} {a1 a2 a3 : Option Value} {z : Nat} : Rs L xs (d) 323 0 [some (.ref z), a1, a2, a3] st M x = Rs L xs (d) 323 1 [some (.ref z), a1, a2, a3] (.ref z :: st) M x := Rs_next c323_0 rfl
theorem c323_1 : qx_code 323 1 = some (1, .invokevirtual 306, 4, 263, 1, 1882) := by decide +kernel
theorem s323_1 {L : Nat} {xs : Nat → Int32} {d x : Nat} {M : qxM} {st : List Value} {ls : qxL} {t : Nat} (hk : qx_kd t = 18) (hs : st.length ≤ 4) : Rs L xs (d + 1) 323 1 ls (.ref t :: st) M x = (Rs L xs d 263 0 [some (.ref t)] [] M 0).bind (qx_kn L xs (d + 1) 323 1 4 263 ls st x) := by
  have h1 : qx_act L xs (qx_rt 323) (1, .invokevirtual 306, 4, 263, 1, 1882) ls (.ref t :: st) M = if 1 ≤ (.ref t :: st).length ∧ st.length ≤ 4 then some (.inr (.inr (.inr (263, [.ref t], st)))) else none := rfl
  rw [if_pos ⟨by simp [List.length_cons]; try omega, hs⟩] at h1
  have h2 := qx_kd_obj (k := 8) (by decide) hk
  exact Rs_call c323_1 h1 (by rw [show qx_args 263 [.ref t] = decide (qx_sh t = some (.inl 8)) from rfl]; exact decide_eq_true h2)
theorem c323_4 : qx_code 323 4 = some (4, .ifCond .ne 5, 7, 9, 0, 0) := by decide +kernel
theorem s323_4 {L : Nat} {xs : Nat → Int32} {d x : Nat} {M : qxM} {st : List Value} {ls : qxL} {z : Int32} : Rs L xs (d) 323 4 ls (.int z :: st) M x = if z = 0 then Rs L xs (d) 323 7 ls st M x else Rs L xs (d) 323 9 ls st M x := Rs_ite c323_4 rfl
theorem c323_7 : qx_code 323 7 = some (7, .iconst 0, 8, 0, 0, 0) := by decide +kernel
theorem s323_7 {L : Nat} {xs : Nat → Int32} {d x : Nat} {M : qxM} {st : List Value} {ls : qxL} : Rs L xs (d) 323 7 ls st M x = Rs L xs (d) 323 8 ls (.int (nI 0) :: st) M x := Rs_next c323_7 rfl
theorem c323_8 : qx_code 323 8 = some (8, .ireturn, 9, 0, 0, 0) := by decide +kernel
theorem s323_8 {L : Nat} {xs : Nat → Int32} {d x : Nat} {M : qxM} {ls : qxL} {z : Int32} : Rs L xs (d) 323 8 ls [.int z] M x = some (.inl (some (.int z)), M, x) := Rs_ret c323_8 rfl
theorem c323_9 : qx_code 323 9 = some (9, .aload_n 0, 10, 0, 0, 0) := by decide +kernel
theorem s323_9 {L : Nat} {xs : Nat → Int32} {d x : Nat} {M : qxM} {st : List Value} {a1 a2 a3 : Option Value} {z : Nat} : Rs L xs (d) 323 9 [some (.ref z), a1, a2, a3] st M x = Rs L xs (d) 323 10 [some (.ref z), a1, a2, a3] (.ref z :: st) M x := Rs_next c323_9 rfl
theorem c323_10 : qx_code 323 10 = some (10, .invokevirtual 381, 13, 318, 1, 2177) := by decide +kernel
theorem s323_10 {L : Nat} {xs : Nat → Int32} {d x : Nat} {M : qxM} {st : List Value} {ls : qxL} {t : Nat} (hk : qx_kd t = 18) (hs : st.length ≤ 4) : Rs L xs (d + 1) 323 10 ls (.ref t :: st) M x = (Rs L xs d 318 0 [some (.ref t), none] [] M 0).bind (qx_kn L xs (d + 1) 323 10 13 318 ls st x) := by
  have h1 : qx_act L xs (qx_rt 323) (10, .invokevirtual 381, 13, 318, 1, 2177) ls (.ref t :: st) M = if 1 ≤ (.ref t :: st).length ∧ st.length ≤ 4 then some (.inr (.inr (.inr (318, [.ref t], st)))) else none := rfl
  rw [if_pos ⟨by simp [List.length_cons]; try omega, hs⟩] at h1
  have h2 := qx_kd_obj (k := 8) (by decide) hk
  exact Rs_call c323_10 h1 (by rw [show qx_args 318 [.ref t] = decide (qx_sh t = some (.inl 8)) from rfl]; exact decide_eq_true h2)
theorem c323_13 : qx_code 323 13 = some (13, .aload_n 0, 14, 0, 0, 0) := by decide +kernel
theorem s323_13 {L : Nat} {xs : Nat → Int32} {d x : Nat} {M : qxM} {st : List Value} {a1 a2 a3 : Option Value} {z : Nat} : Rs L xs (d) 323 13 [some (.ref z), a1, a2, a3] st M x = Rs L xs (d) 323 14 [some (.ref z), a1, a2, a3] (.ref z :: st) M x := Rs_next c323_13 rfl
theorem c323_14 : qx_code 323 14 = some (14, .invokevirtual 213, 17, 223, 1, 1795) := by decide +kernel
theorem s323_14 {L : Nat} {xs : Nat → Int32} {d x : Nat} {M : qxM} {st : List Value} {ls : qxL} {t : Nat} (hk : qx_kd t = 18) (hs : st.length ≤ 4) : Rs L xs (d + 1) 323 14 ls (.ref t :: st) M x = (Rs L xs d 223 0 [some (.ref t), none, none] [] M 0).bind (qx_kn L xs (d + 1) 323 14 17 223 ls st x) := by
  have h1 : qx_act L xs (qx_rt 323) (14, .invokevirtual 213, 17, 223, 1, 1795) ls (.ref t :: st) M = if 1 ≤ (.ref t :: st).length ∧ st.length ≤ 4 then some (.inr (.inr (.inr (223, [.ref t], st)))) else none := rfl
  rw [if_pos ⟨by simp [List.length_cons]; try omega, hs⟩] at h1
  have h2 := qx_kd_obj (k := 8) (by decide) hk
  exact Rs_call c323_14 h1 (by rw [show qx_args 223 [.ref t] = decide (qx_sh t = some (.inl 8)) from rfl]; exact decide_eq_true h2)
theorem c323_17 : qx_code 323 17 = some (17, .istore_n 1, 18, 0, 0, 0) := by decide +kernel
theorem s323_17i {L : Nat} {xs : Nat → Int32} {d x : Nat} {M : qxM} {st : List Value} {a1 a2 a3 : Option Value} {z : Int32} {y : Int32} : Rs L xs (d) 323 17 [some (.int y), a1, a2, a3] (.int z :: st) M x = Rs L xs (d) 323 18 [some (.int y), some (.int z), a2, a3] st M x := Rs_next c323_17 rfl
theorem s323_17r {L : Nat} {xs : Nat → Int32} {d x : Nat} {M : qxM} {st : List Value} {a1 a2 a3 : Option Value} {z : Int32} {y : Nat} : Rs L xs (d) 323 17 [some (.ref y), a1, a2, a3] (.int z :: st) M x = Rs L xs (d) 323 18 [some (.ref y), some (.int z), a2, a3] st M x := Rs_next c323_17 rfl
theorem s323_17n {L : Nat} {xs : Nat → Int32} {d x : Nat} {M : qxM} {st : List Value} {a1 a2 a3 : Option Value} {z : Int32} : Rs L xs (d) 323 17 [none, a1, a2, a3] (.int z :: st) M x = Rs L xs (d) 323 18 [none, some (.int z), a2, a3] st M x := Rs_next c323_17 rfl
theorem c323_18 : qx_code 323 18 = some (18, .iconst 0, 19, 0, 0, 0) := by decide +kernel
theorem s323_18 {L : Nat} {xs : Nat → Int32} {d x : Nat} {M : qxM} {st : List Value} {ls : qxL} : Rs L xs (d) 323 18 ls st M x = Rs L xs (d) 323 19 ls (.int (nI 0) :: st) M x := Rs_next c323_18 rfl
theorem c323_19 : qx_code 323 19 = some (19, .istore_n 2, 20, 0, 0, 0) := by decide +kernel
theorem s323_19i {L : Nat} {xs : Nat → Int32} {d x : Nat} {M : qxM} {st : List Value} {a0 a2 a3 : Option Value} {z : Int32} {y : Int32} : Rs L xs (d) 323 19 [a0, some (.int y), a2, a3] (.int z :: st) M x = Rs L xs (d) 323 20 [a0, some (.int y), some (.int z), a3] st M x := Rs_next c323_19 rfl
theorem s323_19r {L : Nat} {xs : Nat → Int32} {d x : Nat} {M : qxM} {st : List Value} {a0 a2 a3 : Option Value} {z : Int32} {y : Nat} : Rs L xs (d) 323 19 [a0, some (.ref y), a2, a3] (.int z :: st) M x = Rs L xs (d) 323 20 [a0, some (.ref y), some (.int z), a3] st M x := Rs_next c323_19 rfl
theorem s323_19n {L : Nat} {xs : Nat → Int32} {d x : Nat} {M : qxM} {st : List Value} {a0 a2 a3 : Option Value} {z : Int32} : Rs L xs (d) 323 19 [a0, none, a2, a3] (.int z :: st) M x = Rs L xs (d) 323 20 [a0, none, some (.int z), a3] st M x := Rs_next c323_19 rfl
theorem c323_20 : qx_code 323 20 = some (20, .iload_n 2, 21, 0, 0, 0) := by decide +kernel
theorem s323_20 {L : Nat} {xs : Nat → Int32} {d x : Nat} {M : qxM} {st : List Value} {a0 a1 a3 : Option Value} {z : Int32} : Rs L xs (d) 323 20 [a0, a1, some (.int z), a3] st M x = Rs L xs (d) 323 21 [a0, a1, some (.int z), a3] (.int z :: st) M x := Rs_next c323_20 rfl
theorem c323_21 : qx_code 323 21 = some (21, .aload_n 0, 22, 0, 0, 0) := by decide +kernel
theorem s323_21 {L : Nat} {xs : Nat → Int32} {d x : Nat} {M : qxM} {st : List Value} {a1 a2 a3 : Option Value} {z : Nat} : Rs L xs (d) 323 21 [some (.ref z), a1, a2, a3] st M x = Rs L xs (d) 323 22 [some (.ref z), a1, a2, a3] (.ref z :: st) M x := Rs_next c323_21 rfl
theorem c323_22 : qx_code 323 22 = some (22, .getfield 9, 25, 8, 1, 1546) := by decide +kernel
theorem s323_22 {L : Nat} {xs : Nat → Int32} {d x : Nat} {M : qxM} {st : List Value} {ls : qxL} {t : Nat} (hk : qx_kd t = 18) : Rs L xs (d) 323 22 ls (.ref t :: st) M x = Rs L xs (d) 323 25 ls (.ref (t + 1) :: st) M x := Rs_when (qx_kd_obj (k := 8) (by decide) hk) c323_22 rfl
theorem c323_25 : qx_code 323 25 = some (25, .iconst 0, 26, 0, 0, 0) := by decide +kernel
theorem s323_25 {L : Nat} {xs : Nat → Int32} {d x : Nat} {M : qxM} {st : List Value} {ls : qxL} : Rs L xs (d) 323 25 ls st M x = Rs L xs (d) 323 26 ls (.int (nI 0) :: st) M x := Rs_next c323_25 rfl
theorem c323_26 : qx_code 323 26 = some (26, .iaload, 27, 0, 0, 0) := by decide +kernel
theorem s323_26 {L : Nat} {xs : Nat → Int32} {d x : Nat} {M : qxM} {st : List Value} {ls : qxL} {t : Nat} {j : Int32} (hk : qx_kd t = 0) (hj : qx_ib j (qx_ln t) = true) : Rs L xs (d) 323 26 ls (.int j :: .ref t :: st) M x = Rs L xs (d) 323 27 ls (.int (M.1 t j.toNatClampNeg) :: st) M x := by
  have h1 := qx_kd_row (k := 0) (by decide) hk
  exact Rs_unless (qx_ib_not hj) c323_26 (by unfold qx_act; dsimp only; rw [h1]; rfl)
theorem c323_27 : qx_code 323 27 = some (27, .if_icmp .ge 39, 30, 66, 0, 0) := by decide +kernel
theorem s323_27 {L : Nat} {xs : Nat → Int32} {d x : Nat} {M : qxM} {st : List Value} {ls : qxL} {z y : Int32} : Rs L xs (d) 323 27 ls (.int y :: .int z :: st) M x = if y ≤ z then Rs L xs (d) 323 66 ls st M x else Rs L xs (d) 323 30 ls st M x := Rs_ite c323_27 rfl
theorem c323_30 : qx_code 323 30 = some (30, .iload_n 1, 31, 0, 0, 0) := by decide +kernel
theorem s323_30 {L : Nat} {xs : Nat → Int32} {d x : Nat} {M : qxM} {st : List Value} {a0 a2 a3 : Option Value} {z : Int32} : Rs L xs (d) 323 30 [a0, some (.int z), a2, a3] st M x = Rs L xs (d) 323 31 [a0, some (.int z), a2, a3] (.int z :: st) M x := Rs_next c323_30 rfl
theorem c323_31 : qx_code 323 31 = some (31, .iload_n 2, 32, 0, 0, 0) := by decide +kernel
theorem s323_31 {L : Nat} {xs : Nat → Int32} {d x : Nat} {M : qxM} {st : List Value} {a0 a1 a3 : Option Value} {z : Int32} : Rs L xs (d) 323 31 [a0, a1, some (.int z), a3] st M x = Rs L xs (d) 323 32 [a0, a1, some (.int z), a3] (.int z :: st) M x := Rs_next c323_31 rfl
theorem c323_32 : qx_code 323 32 = some (32, .invokestatic 128, 35, 208, 2, 1729) := by decide +kernel
theorem s323_32 {L : Nat} {xs : Nat → Int32} {d x : Nat} {M : qxM} {st : List Value} {ls : qxL} {z0 : Int32} {z1 : Int32} (hs : st.length ≤ 4) : Rs L xs (d + 1) 323 32 ls (.int z1 :: .int z0 :: st) M x = (Rs L xs d 208 0 [some (.int z0), some (.int z1)] [] M 0).bind (qx_kn L xs (d + 1) 323 32 35 208 ls st x) := by
  have h1 : qx_act L xs (qx_rt 323) (32, .invokestatic 128, 35, 208, 2, 1729) ls (.int z1 :: .int z0 :: st) M = if 2 ≤ (.int z1 :: .int z0 :: st).length ∧ st.length ≤ 4 then some (.inr (.inr (.inr (208, [.int z0, .int z1], st)))) else none := rfl
  rw [if_pos ⟨by simp [List.length_cons]; try omega, hs⟩] at h1
  exact Rs_call c323_32 h1 rfl
theorem c323_35 : qx_code 323 35 = some (35, .ifCond .eq 25, 38, 60, 0, 0) := by decide +kernel
theorem s323_35 {L : Nat} {xs : Nat → Int32} {d x : Nat} {M : qxM} {st : List Value} {ls : qxL} {z : Int32} : Rs L xs (d) 323 35 ls (.int z :: st) M x = if z = 0 then Rs L xs (d) 323 60 ls st M x else Rs L xs (d) 323 38 ls st M x := Rs_ite c323_35 rfl
theorem c323_38 : qx_code 323 38 = some (38, .aload_n 0, 39, 0, 0, 0) := by decide +kernel
theorem s323_38 {L : Nat} {xs : Nat → Int32} {d x : Nat} {M : qxM} {st : List Value} {a1 a2 a3 : Option Value} {z : Nat} : Rs L xs (d) 323 38 [some (.ref z), a1, a2, a3] st M x = Rs L xs (d) 323 39 [some (.ref z), a1, a2, a3] (.ref z :: st) M x := Rs_next c323_38 rfl
theorem c323_39 : qx_code 323 39 = some (39, .iload_n 2, 40, 0, 0, 0) := by decide +kernel
theorem s323_39 {L : Nat} {xs : Nat → Int32} {d x : Nat} {M : qxM} {st : List Value} {a0 a1 a3 : Option Value} {z : Int32} : Rs L xs (d) 323 39 [a0, a1, some (.int z), a3] st M x = Rs L xs (d) 323 40 [a0, a1, some (.int z), a3] (.int z :: st) M x := Rs_next c323_39 rfl
theorem c323_40 : qx_code 323 40 = some (40, .invokevirtual 132, 43, 213, 2, 1737) := by decide +kernel
theorem s323_40 {L : Nat} {xs : Nat → Int32} {d x : Nat} {M : qxM} {st : List Value} {ls : qxL} {t : Nat} {z0 : Int32} (hk : qx_kd t = 18) (hs : st.length ≤ 4) : Rs L xs (d + 1) 323 40 ls (.int z0 :: .ref t :: st) M x = (Rs L xs d 213 0 [some (.ref t), some (.int z0)] [] M 0).bind (qx_kn L xs (d + 1) 323 40 43 213 ls st x) := by
  have h1 : qx_act L xs (qx_rt 323) (40, .invokevirtual 132, 43, 213, 2, 1737) ls (.int z0 :: .ref t :: st) M = if 2 ≤ (.int z0 :: .ref t :: st).length ∧ st.length ≤ 4 then some (.inr (.inr (.inr (213, [.ref t, .int z0], st)))) else none := rfl
  rw [if_pos ⟨by simp [List.length_cons]; try omega, hs⟩] at h1
  have h2 := qx_kd_obj (k := 8) (by decide) hk
  exact Rs_call c323_40 h1 (by rw [show qx_args 213 [.ref t, .int z0] = decide (qx_sh t = some (.inl 8)) from rfl]; exact decide_eq_true h2)
theorem c323_43 : qx_code 323 43 = some (43, .iconst (-1), 44, 0, 0, 0) := by decide +kernel
theorem s323_43 {L : Nat} {xs : Nat → Int32} {d x : Nat} {M : qxM} {st : List Value} {ls : qxL} : Rs L xs (d) 323 43 ls st M x = Rs L xs (d) 323 44 ls (.int (-1) :: st) M x := Rs_next c323_43 rfl
theorem c323_44 : qx_code 323 44 = some (44, .if_icmp .eq 6, 47, 50, 0, 0) := by decide +kernel
theorem s323_44 {L : Nat} {xs : Nat → Int32} {d x : Nat} {M : qxM} {st : List Value} {ls : qxL} {z y : Int32} : Rs L xs (d) 323 44 ls (.int y :: .int z :: st) M x = if z = y then Rs L xs (d) 323 50 ls st M x else Rs L xs (d) 323 47 ls st M x := Rs_ite c323_44 rfl
theorem c323_47 : qx_code 323 47 = some (47, .goto 13, 50, 60, 0, 0) := by decide +kernel
theorem s323_47 {L : Nat} {xs : Nat → Int32} {d x : Nat} {M : qxM} {st : List Value} {ls : qxL} : Rs L xs (d) 323 47 ls st M x = Rs L xs (d) 323 60 ls st M x := Rs_next c323_47 rfl
theorem c323_50 : qx_code 323 50 = some (50, .aload_n 0, 51, 0, 0, 0) := by decide +kernel
theorem s323_50 {L : Nat} {xs : Nat → Int32} {d x : Nat} {M : qxM} {st : List Value} {a1 a2 a3 : Option Value} {z : Nat} : Rs L xs (d) 323 50 [some (.ref z), a1, a2, a3] st M x = Rs L xs (d) 323 51 [some (.ref z), a1, a2, a3] (.ref z :: st) M x := Rs_next c323_50 rfl
theorem c323_51 : qx_code 323 51 = some (51, .iload_n 2, 52, 0, 0, 0) := by decide +kernel
theorem s323_51 {L : Nat} {xs : Nat → Int32} {d x : Nat} {M : qxM} {st : List Value} {a0 a1 a3 : Option Value} {z : Int32} : Rs L xs (d) 323 51 [a0, a1, some (.int z), a3] st M x = Rs L xs (d) 323 52 [a0, a1, some (.int z), a3] (.int z :: st) M x := Rs_next c323_51 rfl
theorem c323_52 : qx_code 323 52 = some (52, .invokevirtual 363, 55, 238, 2, 2073) := by decide +kernel
theorem s323_52 {L : Nat} {xs : Nat → Int32} {d x : Nat} {M : qxM} {st : List Value} {ls : qxL} {t : Nat} {z0 : Int32} (hk : qx_kd t = 18) (hs : st.length ≤ 4) : Rs L xs (d + 1) 323 52 ls (.int z0 :: .ref t :: st) M x = (Rs L xs d 238 0 [some (.ref t), some (.int z0), none] [] M 0).bind (qx_kn L xs (d + 1) 323 52 55 238 ls st x) := by
  have h1 : qx_act L xs (qx_rt 323) (52, .invokevirtual 363, 55, 238, 2, 2073) ls (.int z0 :: .ref t :: st) M = if 2 ≤ (.int z0 :: .ref t :: st).length ∧ st.length ≤ 4 then some (.inr (.inr (.inr (238, [.ref t, .int z0], st)))) else none := rfl
  rw [if_pos ⟨by simp [List.length_cons]; try omega, hs⟩] at h1
  have h2 := qx_kd_obj (k := 8) (by decide) hk
  exact Rs_call c323_52 h1 (by rw [show qx_args 238 [.ref t, .int z0] = decide (qx_sh t = some (.inl 8)) from rfl]; exact decide_eq_true h2)
theorem c323_55 : qx_code 323 55 = some (55, .aload_n 0, 56, 0, 0, 0) := by decide +kernel
theorem s323_55 {L : Nat} {xs : Nat → Int32} {d x : Nat} {M : qxM} {st : List Value} {a1 a2 a3 : Option Value} {z : Nat} : Rs L xs (d) 323 55 [some (.ref z), a1, a2, a3] st M x = Rs L xs (d) 323 56 [some (.ref z), a1, a2, a3] (.ref z :: st) M x := Rs_next c323_55 rfl
theorem c323_56 : qx_code 323 56 = some (56, .invokevirtual 366, 59, 251, 1, 2089) := by decide +kernel
theorem s323_56 {L : Nat} {xs : Nat → Int32} {d x : Nat} {M : qxM} {st : List Value} {ls : qxL} {t : Nat} (hk : qx_kd t = 18) (hs : st.length ≤ 4) : Rs L xs (d + 1) 323 56 ls (.ref t :: st) M x = (Rs L xs d 251 0 [some (.ref t), none, none] [] M 0).bind (qx_kn L xs (d + 1) 323 56 59 251 ls st x) := by
  have h1 : qx_act L xs (qx_rt 323) (56, .invokevirtual 366, 59, 251, 1, 2089) ls (.ref t :: st) M = if 1 ≤ (.ref t :: st).length ∧ st.length ≤ 4 then some (.inr (.inr (.inr (251, [.ref t], st)))) else none := rfl
  rw [if_pos ⟨by simp [List.length_cons]; try omega, hs⟩] at h1
  have h2 := qx_kd_obj (k := 8) (by decide) hk
  exact Rs_call c323_56 h1 (by rw [show qx_args 251 [.ref t] = decide (qx_sh t = some (.inl 8)) from rfl]; exact decide_eq_true h2)
theorem c323_59 : qx_code 323 59 = some (59, .istore_n 3, 60, 0, 0, 0) := by decide +kernel
theorem s323_59i {L : Nat} {xs : Nat → Int32} {d x : Nat} {M : qxM} {st : List Value} {a0 a1 a3 : Option Value} {z : Int32} {y : Int32} : Rs L xs (d) 323 59 [a0, a1, some (.int y), a3] (.int z :: st) M x = Rs L xs (d) 323 60 [a0, a1, some (.int y), some (.int z)] st M x := Rs_next c323_59 rfl
theorem s323_59r {L : Nat} {xs : Nat → Int32} {d x : Nat} {M : qxM} {st : List Value} {a0 a1 a3 : Option Value} {z : Int32} {y : Nat} : Rs L xs (d) 323 59 [a0, a1, some (.ref y), a3] (.int z :: st) M x = Rs L xs (d) 323 60 [a0, a1, some (.ref y), some (.int z)] st M x := Rs_next c323_59 rfl
theorem s323_59n {L : Nat} {xs : Nat → Int32} {d x : Nat} {M : qxM} {st : List Value} {a0 a1 a3 : Option Value} {z : Int32} : Rs L xs (d) 323 59 [a0, a1, none, a3] (.int z :: st) M x = Rs L xs (d) 323 60 [a0, a1, none, some (.int z)] st M x := Rs_next c323_59 rfl
theorem c323_60 : qx_code 323 60 = some (60, .iinc 2 1, 63, 0, 0, 0) := by decide +kernel
theorem s323_60i {L : Nat} {xs : Nat → Int32} {d x : Nat} {M : qxM} {st : List Value} {a0 a3 : Option Value} {z : Int32} {y : Int32} : Rs L xs (d) 323 60 [a0, some (.int y), some (.int z), a3] st M x = Rs L xs (d) 323 63 [a0, some (.int y), some (.int (z + (nI 1))), a3] st M x := Rs_next c323_60 rfl
theorem s323_60r {L : Nat} {xs : Nat → Int32} {d x : Nat} {M : qxM} {st : List Value} {a0 a3 : Option Value} {z : Int32} {y : Nat} : Rs L xs (d) 323 60 [a0, some (.ref y), some (.int z), a3] st M x = Rs L xs (d) 323 63 [a0, some (.ref y), some (.int (z + (nI 1))), a3] st M x := Rs_next c323_60 rfl
theorem s323_60n {L : Nat} {xs : Nat → Int32} {d x : Nat} {M : qxM} {st : List Value} {a0 a3 : Option Value} {z : Int32} : Rs L xs (d) 323 60 [a0, none, some (.int z), a3] st M x = Rs L xs (d) 323 63 [a0, none, some (.int (z + (nI 1))), a3] st M x := Rs_next c323_60 rfl
theorem c323_63 : qx_code 323 63 = some (63, .goto (-43), 66, 20, 0, 0) := by decide +kernel
theorem s323_63 {L : Nat} {xs : Nat → Int32} {d x : Nat} {M : qxM} {st : List Value} {ls : qxL} : Rs L xs (d) 323 63 ls st M x = Rs L xs (d) 323 20 ls st M x := Rs_next c323_63 rfl
theorem c323_66 : qx_code 323 66 = some (66, .aload_n 0, 67, 0, 0, 0) := by decide +kernel
theorem s323_66 {L : Nat} {xs : Nat → Int32} {d x : Nat} {M : qxM} {st : List Value} {a1 a2 a3 : Option Value} {z : Nat} : Rs L xs (d) 323 66 [some (.ref z), a1, a2, a3] st M x = Rs L xs (d) 323 67 [some (.ref z), a1, a2, a3] (.ref z :: st) M x := Rs_next c323_66 rfl
theorem c323_67 : qx_code 323 67 = some (67, .invokevirtual 384, 70, 239, 1, 2193) := by decide +kernel
theorem s323_67 {L : Nat} {xs : Nat → Int32} {d x : Nat} {M : qxM} {st : List Value} {ls : qxL} {t : Nat} (hk : qx_kd t = 18) (hs : st.length ≤ 4) : Rs L xs (d + 1) 323 67 ls (.ref t :: st) M x = (Rs L xs d 239 0 [some (.ref t)] [] M 0).bind (qx_kn L xs (d + 1) 323 67 70 239 ls st x) := by
  have h1 : qx_act L xs (qx_rt 323) (67, .invokevirtual 384, 70, 239, 1, 2193) ls (.ref t :: st) M = if 1 ≤ (.ref t :: st).length ∧ st.length ≤ 4 then some (.inr (.inr (.inr (239, [.ref t], st)))) else none := rfl
  rw [if_pos ⟨by simp [List.length_cons]; try omega, hs⟩] at h1
  have h2 := qx_kd_obj (k := 8) (by decide) hk
  exact Rs_call c323_67 h1 (by rw [show qx_args 239 [.ref t] = decide (qx_sh t = some (.inl 8)) from rfl]; exact decide_eq_true h2)
theorem c323_70 : qx_code 323 70 = some (70, .aload_n 0, 71, 0, 0, 0) := by decide +kernel
theorem s323_70 {L : Nat} {xs : Nat → Int32} {d x : Nat} {M : qxM} {st : List Value} {a1 a2 a3 : Option Value} {z : Nat} : Rs L xs (d) 323 70 [some (.ref z), a1, a2, a3] st M x = Rs L xs (d) 323 71 [some (.ref z), a1, a2, a3] (.ref z :: st) M x := Rs_next c323_70 rfl
theorem c323_71 : qx_code 323 71 = some (71, .invokevirtual 223, 74, 224, 1, 1791) := by decide +kernel
theorem s323_71 {L : Nat} {xs : Nat → Int32} {d x : Nat} {M : qxM} {st : List Value} {ls : qxL} {t : Nat} (hk : qx_kd t = 18) (hs : st.length ≤ 4) : Rs L xs (d + 1) 323 71 ls (.ref t :: st) M x = (Rs L xs d 224 0 [some (.ref t)] [] M 0).bind (qx_kn L xs (d + 1) 323 71 74 224 ls st x) := by
  have h1 : qx_act L xs (qx_rt 323) (71, .invokevirtual 223, 74, 224, 1, 1791) ls (.ref t :: st) M = if 1 ≤ (.ref t :: st).length ∧ st.length ≤ 4 then some (.inr (.inr (.inr (224, [.ref t], st)))) else none := rfl
  rw [if_pos ⟨by simp [List.length_cons]; try omega, hs⟩] at h1
  have h2 := qx_kd_obj (k := 8) (by decide) hk
  exact Rs_call c323_71 h1 (by rw [show qx_args 224 [.ref t] = decide (qx_sh t = some (.inl 8)) from rfl]; exact decide_eq_true h2)
theorem c323_74 : qx_code 323 74 = some (74, .ireturn, 75, 0, 0, 0) := by decide +kernel
theorem s323_74 {L : Nat} {xs : Nat → Int32} {d x : Nat} {M : qxM} {ls : qxL} {z : Int32} : Rs L xs (d) 323 74 ls [.int z] M x = some (.inl (some (.int z)), M, x) := Rs_ret c323_74 rfl
theorem c324_0 : qx_code 324 0 = some (0, .aload_n 0, 1, 0, 0, 0) := by decide +kernel
theorem s324_0 {L : Nat} {xs : Nat → Int32} {d x : Nat} {M : qxM} {st : List Value} {a1 a2 a3 : Option Value} {z : Nat} : Rs L xs (d) 324 0 [some (.ref z), a1, a2, a3] st M x = Rs L xs (d) 324 1 [some (.ref z), a1, a2, a3] (.ref z :: st) M x := Rs_next c324_0 rfl
theorem c324_1 : qx_code 324 1 = some (1, .getfield 187, 4, 8, 6, 1551) := by decide +kernel
theorem s324_1 {L : Nat} {xs : Nat → Int32} {d x : Nat} {M : qxM} {st : List Value} {ls : qxL} {t : Nat} (hk : qx_kd t = 18) : Rs L xs (d) 324 1 ls (.ref t :: st) M x = Rs L xs (d) 324 4 ls (.int (M.1 t 6) :: st) M x := Rs_when (qx_kd_obj (k := 8) (by decide) hk) c324_1 rfl
theorem c324_4 : qx_code 324 4 = some (4, .ifCond .eq 23, 7, 27, 0, 0) := by decide +kernel
theorem s324_4 {L : Nat} {xs : Nat → Int32} {d x : Nat} {M : qxM} {st : List Value} {ls : qxL} {z : Int32} : Rs L xs (d) 324 4 ls (.int z :: st) M x = if z = 0 then Rs L xs (d) 324 27 ls st M x else Rs L xs (d) 324 7 ls st M x := Rs_ite c324_4 rfl
theorem c324_7 : qx_code 324 7 = some (7, .aload_n 0, 8, 0, 0, 0) := by decide +kernel
theorem s324_7 {L : Nat} {xs : Nat → Int32} {d x : Nat} {M : qxM} {st : List Value} {a1 a2 a3 : Option Value} {z : Nat} : Rs L xs (d) 324 7 [some (.ref z), a1, a2, a3] st M x = Rs L xs (d) 324 8 [some (.ref z), a1, a2, a3] (.ref z :: st) M x := Rs_next c324_7 rfl
theorem c324_8 : qx_code 324 8 = some (8, .iload_n 1, 9, 0, 0, 0) := by decide +kernel
theorem s324_8 {L : Nat} {xs : Nat → Int32} {d x : Nat} {M : qxM} {st : List Value} {a0 a2 a3 : Option Value} {z : Int32} : Rs L xs (d) 324 8 [a0, some (.int z), a2, a3] st M x = Rs L xs (d) 324 9 [a0, some (.int z), a2, a3] (.int z :: st) M x := Rs_next c324_8 rfl
theorem c324_9 : qx_code 324 9 = some (9, .invokevirtual 226, 12, 211, 2, 1803) := by decide +kernel
theorem s324_9 {L : Nat} {xs : Nat → Int32} {d x : Nat} {M : qxM} {st : List Value} {ls : qxL} {t : Nat} {z0 : Int32} (hk : qx_kd t = 18) (hs : st.length ≤ 4) : Rs L xs (d + 1) 324 9 ls (.int z0 :: .ref t :: st) M x = (Rs L xs d 211 0 [some (.ref t), some (.int z0)] [] M 0).bind (qx_kn L xs (d + 1) 324 9 12 211 ls st x) := by
  have h1 : qx_act L xs (qx_rt 324) (9, .invokevirtual 226, 12, 211, 2, 1803) ls (.int z0 :: .ref t :: st) M = if 2 ≤ (.int z0 :: .ref t :: st).length ∧ st.length ≤ 4 then some (.inr (.inr (.inr (211, [.ref t, .int z0], st)))) else none := rfl
  rw [if_pos ⟨by simp [List.length_cons]; try omega, hs⟩] at h1
  have h2 := qx_kd_obj (k := 8) (by decide) hk
  exact Rs_call c324_9 h1 (by rw [show qx_args 211 [.ref t, .int z0] = decide (qx_sh t = some (.inl 8)) from rfl]; exact decide_eq_true h2)
theorem c324_12 : qx_code 324 12 = some (12, .ifCond .eq 15, 15, 27, 0, 0) := by decide +kernel
theorem s324_12 {L : Nat} {xs : Nat → Int32} {d x : Nat} {M : qxM} {st : List Value} {ls : qxL} {z : Int32} : Rs L xs (d) 324 12 ls (.int z :: st) M x = if z = 0 then Rs L xs (d) 324 27 ls st M x else Rs L xs (d) 324 15 ls st M x := Rs_ite c324_12 rfl
theorem c324_15 : qx_code 324 15 = some (15, .aload_n 0, 16, 0, 0, 0) := by decide +kernel
theorem s324_15 {L : Nat} {xs : Nat → Int32} {d x : Nat} {M : qxM} {st : List Value} {a1 a2 a3 : Option Value} {z : Nat} : Rs L xs (d) 324 15 [some (.ref z), a1, a2, a3] st M x = Rs L xs (d) 324 16 [some (.ref z), a1, a2, a3] (.ref z :: st) M x := Rs_next c324_15 rfl
theorem c324_16 : qx_code 324 16 = some (16, .iload_n 2, 17, 0, 0, 0) := by decide +kernel
theorem s324_16 {L : Nat} {xs : Nat → Int32} {d x : Nat} {M : qxM} {st : List Value} {a0 a1 a3 : Option Value} {z : Int32} : Rs L xs (d) 324 16 [a0, a1, some (.int z), a3] st M x = Rs L xs (d) 324 17 [a0, a1, some (.int z), a3] (.int z :: st) M x := Rs_next c324_16 rfl
theorem c324_17 : qx_code 324 17 = some (17, .invokevirtual 226, 20, 211, 2, 1803) := by decide +kernel
theorem s324_17 {L : Nat} {xs : Nat → Int32} {d x : Nat} {M : qxM} {st : List Value} {ls : qxL} {t : Nat} {z0 : Int32} (hk : qx_kd t = 18) (hs : st.length ≤ 4) : Rs L xs (d + 1) 324 17 ls (.int z0 :: .ref t :: st) M x = (Rs L xs d 211 0 [some (.ref t), some (.int z0)] [] M 0).bind (qx_kn L xs (d + 1) 324 17 20 211 ls st x) := by
  have h1 : qx_act L xs (qx_rt 324) (17, .invokevirtual 226, 20, 211, 2, 1803) ls (.int z0 :: .ref t :: st) M = if 2 ≤ (.int z0 :: .ref t :: st).length ∧ st.length ≤ 4 then some (.inr (.inr (.inr (211, [.ref t, .int z0], st)))) else none := rfl
  rw [if_pos ⟨by simp [List.length_cons]; try omega, hs⟩] at h1
  have h2 := qx_kd_obj (k := 8) (by decide) hk
  exact Rs_call c324_17 h1 (by rw [show qx_args 211 [.ref t, .int z0] = decide (qx_sh t = some (.inl 8)) from rfl]; exact decide_eq_true h2)
theorem c324_20 : qx_code 324 20 = some (20, .ifCond .eq 7, 23, 27, 0, 0) := by decide +kernel
theorem s324_20 {L : Nat} {xs : Nat → Int32} {d x : Nat} {M : qxM} {st : List Value} {ls : qxL} {z : Int32} : Rs L xs (d) 324 20 ls (.int z :: st) M x = if z = 0 then Rs L xs (d) 324 27 ls st M x else Rs L xs (d) 324 23 ls st M x := Rs_ite c324_20 rfl
theorem c324_23 : qx_code 324 23 = some (23, .iconst 1, 24, 0, 0, 0) := by decide +kernel
theorem s324_23 {L : Nat} {xs : Nat → Int32} {d x : Nat} {M : qxM} {st : List Value} {ls : qxL} : Rs L xs (d) 324 23 ls st M x = Rs L xs (d) 324 24 ls (.int (nI 1) :: st) M x := Rs_next c324_23 rfl
theorem c324_24 : qx_code 324 24 = some (24, .goto 4, 27, 28, 0, 0) := by decide +kernel
theorem s324_24 {L : Nat} {xs : Nat → Int32} {d x : Nat} {M : qxM} {st : List Value} {ls : qxL} : Rs L xs (d) 324 24 ls st M x = Rs L xs (d) 324 28 ls st M x := Rs_next c324_24 rfl
theorem c324_27 : qx_code 324 27 = some (27, .iconst 0, 28, 0, 0, 0) := by decide +kernel
theorem s324_27 {L : Nat} {xs : Nat → Int32} {d x : Nat} {M : qxM} {st : List Value} {ls : qxL} : Rs L xs (d) 324 27 ls st M x = Rs L xs (d) 324 28 ls (.int (nI 0) :: st) M x := Rs_next c324_27 rfl
theorem c324_28 : qx_code 324 28 = some (28, .istore_n 3, 29, 0, 0, 0) := by decide +kernel
theorem s324_28i {L : Nat} {xs : Nat → Int32} {d x : Nat} {M : qxM} {st : List Value} {a0 a1 a3 : Option Value} {z : Int32} {y : Int32} : Rs L xs (d) 324 28 [a0, a1, some (.int y), a3] (.int z :: st) M x = Rs L xs (d) 324 29 [a0, a1, some (.int y), some (.int z)] st M x := Rs_next c324_28 rfl
theorem s324_28r {L : Nat} {xs : Nat → Int32} {d x : Nat} {M : qxM} {st : List Value} {a0 a1 a3 : Option Value} {z : Int32} {y : Nat} : Rs L xs (d) 324 28 [a0, a1, some (.ref y), a3] (.int z :: st) M x = Rs L xs (d) 324 29 [a0, a1, some (.ref y), some (.int z)] st M x := Rs_next c324_28 rfl
theorem s324_28n {L : Nat} {xs : Nat → Int32} {d x : Nat} {M : qxM} {st : List Value} {a0 a1 a3 : Option Value} {z : Int32} : Rs L xs (d) 324 28 [a0, a1, none, a3] (.int z :: st) M x = Rs L xs (d) 324 29 [a0, a1, none, some (.int z)] st M x := Rs_next c324_28 rfl
theorem c324_29 : qx_code 324 29 = some (29, .aload_n 0, 30, 0, 0, 0) := by decide +kernel
theorem s324_29 {L : Nat} {xs : Nat → Int32} {d x : Nat} {M : qxM} {st : List Value} {a1 a2 a3 : Option Value} {z : Nat} : Rs L xs (d) 324 29 [some (.ref z), a1, a2, a3] st M x = Rs L xs (d) 324 30 [some (.ref z), a1, a2, a3] (.ref z :: st) M x := Rs_next c324_29 rfl
theorem c324_30 : qx_code 324 30 = some (30, .aload_n 0, 31, 0, 0, 0) := by decide +kernel
theorem s324_30 {L : Nat} {xs : Nat → Int32} {d x : Nat} {M : qxM} {st : List Value} {a1 a2 a3 : Option Value} {z : Nat} : Rs L xs (d) 324 30 [some (.ref z), a1, a2, a3] st M x = Rs L xs (d) 324 31 [some (.ref z), a1, a2, a3] (.ref z :: st) M x := Rs_next c324_30 rfl
theorem c324_31 : qx_code 324 31 = some (31, .getfield 187, 34, 8, 6, 1551) := by decide +kernel
theorem s324_31 {L : Nat} {xs : Nat → Int32} {d x : Nat} {M : qxM} {st : List Value} {ls : qxL} {t : Nat} (hk : qx_kd t = 18) : Rs L xs (d) 324 31 ls (.ref t :: st) M x = Rs L xs (d) 324 34 ls (.int (M.1 t 6) :: st) M x := Rs_when (qx_kd_obj (k := 8) (by decide) hk) c324_31 rfl
theorem c324_34 : qx_code 324 34 = some (34, .iload_n 3, 35, 0, 0, 0) := by decide +kernel
theorem s324_34 {L : Nat} {xs : Nat → Int32} {d x : Nat} {M : qxM} {st : List Value} {a0 a1 a2 : Option Value} {z : Int32} : Rs L xs (d) 324 34 [a0, a1, a2, some (.int z)] st M x = Rs L xs (d) 324 35 [a0, a1, a2, some (.int z)] (.int z :: st) M x := Rs_next c324_34 rfl
theorem c324_35 : qx_code 324 35 = some (35, .iload_n 3, 36, 0, 0, 0) := by decide +kernel
theorem s324_35 {L : Nat} {xs : Nat → Int32} {d x : Nat} {M : qxM} {st : List Value} {a0 a1 a2 : Option Value} {z : Int32} : Rs L xs (d) 324 35 [a0, a1, a2, some (.int z)] st M x = Rs L xs (d) 324 36 [a0, a1, a2, some (.int z)] (.int z :: st) M x := Rs_next c324_35 rfl
theorem c324_36 : qx_code 324 36 = some (36, .ifCond .eq 16, 39, 52, 0, 0) := by decide +kernel
theorem s324_36 {L : Nat} {xs : Nat → Int32} {d x : Nat} {M : qxM} {st : List Value} {ls : qxL} {z : Int32} : Rs L xs (d) 324 36 ls (.int z :: st) M x = if z = 0 then Rs L xs (d) 324 52 ls st M x else Rs L xs (d) 324 39 ls st M x := Rs_ite c324_36 rfl
theorem c324_39 : qx_code 324 39 = some (39, .aload_n 0, 40, 0, 0, 0) := by decide +kernel
theorem s324_39 {L : Nat} {xs : Nat → Int32} {d x : Nat} {M : qxM} {st : List Value} {a1 a2 a3 : Option Value} {z : Nat} : Rs L xs (d) 324 39 [some (.ref z), a1, a2, a3] st M x = Rs L xs (d) 324 40 [some (.ref z), a1, a2, a3] (.ref z :: st) M x := Rs_next c324_39 rfl
theorem c324_40 : qx_code 324 40 = some (40, .iload_n 1, 41, 0, 0, 0) := by decide +kernel
theorem s324_40 {L : Nat} {xs : Nat → Int32} {d x : Nat} {M : qxM} {st : List Value} {a0 a2 a3 : Option Value} {z : Int32} : Rs L xs (d) 324 40 [a0, some (.int z), a2, a3] st M x = Rs L xs (d) 324 41 [a0, some (.int z), a2, a3] (.int z :: st) M x := Rs_next c324_40 rfl
theorem c324_41 : qx_code 324 41 = some (41, .iload_n 2, 42, 0, 0, 0) := by decide +kernel
theorem s324_41 {L : Nat} {xs : Nat → Int32} {d x : Nat} {M : qxM} {st : List Value} {a0 a1 a3 : Option Value} {z : Int32} : Rs L xs (d) 324 41 [a0, a1, some (.int z), a3] st M x = Rs L xs (d) 324 42 [a0, a1, some (.int z), a3] (.int z :: st) M x := Rs_next c324_41 rfl
theorem c324_42 : qx_code 324 42 = some (42, .invokevirtual 238, 45, 231, 3, 1830) := by decide +kernel
theorem s324_42 {L : Nat} {xs : Nat → Int32} {d x : Nat} {M : qxM} {st : List Value} {ls : qxL} {t : Nat} {z0 : Int32} {z1 : Int32} (hk : qx_kd t = 18) (hs : st.length ≤ 4) : Rs L xs (d + 1) 324 42 ls (.int z1 :: .int z0 :: .ref t :: st) M x = (Rs L xs d 231 0 [some (.ref t), some (.int z0), some (.int z1)] [] M 0).bind (qx_kn L xs (d + 1) 324 42 45 231 ls st x) := by
  have h1 : qx_act L xs (qx_rt 324) (42, .invokevirtual 238, 45, 231, 3, 1830) ls (.int z1 :: .int z0 :: .ref t :: st) M = if 3 ≤ (.int z1 :: .int z0 :: .ref t :: st).length ∧ st.length ≤ 4 then some (.inr (.inr (.inr (231, [.ref t, .int z0, .int z1], st)))) else none := rfl
  rw [if_pos ⟨by simp [List.length_cons]; try omega, hs⟩] at h1
  have h2 := qx_kd_obj (k := 8) (by decide) hk
  exact Rs_call c324_42 h1 (by rw [show qx_args 231 [.ref t, .int z0, .int z1] = decide (qx_sh t = some (.inl 8)) from rfl]; exact decide_eq_true h2)
theorem c324_45 : qx_code 324 45 = some (45, .ifCond .ne 7, 48, 52, 0, 0) := by decide +kernel
theorem s324_45 {L : Nat} {xs : Nat → Int32} {d x : Nat} {M : qxM} {st : List Value} {ls : qxL} {z : Int32} : Rs L xs (d) 324 45 ls (.int z :: st) M x = if z = 0 then Rs L xs (d) 324 48 ls st M x else Rs L xs (d) 324 52 ls st M x := Rs_ite c324_45 rfl
theorem c324_48 : qx_code 324 48 = some (48, .iconst 1, 49, 0, 0, 0) := by decide +kernel
theorem s324_48 {L : Nat} {xs : Nat → Int32} {d x : Nat} {M : qxM} {st : List Value} {ls : qxL} : Rs L xs (d) 324 48 ls st M x = Rs L xs (d) 324 49 ls (.int (nI 1) :: st) M x := Rs_next c324_48 rfl
theorem c324_49 : qx_code 324 49 = some (49, .goto 4, 52, 53, 0, 0) := by decide +kernel
theorem s324_49 {L : Nat} {xs : Nat → Int32} {d x : Nat} {M : qxM} {st : List Value} {ls : qxL} : Rs L xs (d) 324 49 ls st M x = Rs L xs (d) 324 53 ls st M x := Rs_next c324_49 rfl
theorem c324_52 : qx_code 324 52 = some (52, .iconst 0, 53, 0, 0, 0) := by decide +kernel
theorem s324_52 {L : Nat} {xs : Nat → Int32} {d x : Nat} {M : qxM} {st : List Value} {ls : qxL} : Rs L xs (d) 324 52 ls st M x = Rs L xs (d) 324 53 ls (.int (nI 0) :: st) M x := Rs_next c324_52 rfl
theorem c324_53 : qx_code 324 53 = some (53, .invokevirtual 49, 56, 180, 4, 1644) := by decide +kernel
theorem s324_53 {L : Nat} {xs : Nat → Int32} {d x : Nat} {M : qxM} {st : List Value} {ls : qxL} {t : Nat} {z0 : Int32} {z1 : Int32} {z2 : Int32} (hk : qx_kd t = 18) (hs : st.length ≤ 4) : Rs L xs (d + 1) 324 53 ls (.int z2 :: .int z1 :: .int z0 :: .ref t :: st) M x = (Rs L xs d 180 0 [some (.ref t), some (.int z0), some (.int z1), some (.int z2)] [] M 0).bind (qx_kn L xs (d + 1) 324 53 56 180 ls st x) := by
  have h1 : qx_act L xs (qx_rt 324) (53, .invokevirtual 49, 56, 180, 4, 1644) ls (.int z2 :: .int z1 :: .int z0 :: .ref t :: st) M = if 4 ≤ (.int z2 :: .int z1 :: .int z0 :: .ref t :: st).length ∧ st.length ≤ 4 then some (.inr (.inr (.inr (180, [.ref t, .int z0, .int z1, .int z2], st)))) else none := rfl
  rw [if_pos ⟨by simp [List.length_cons]; try omega, hs⟩] at h1
  have h2 := qx_kd_obj (k := 8) (by decide) hk
  exact Rs_call c324_53 h1 (by rw [show qx_args 180 [.ref t, .int z0, .int z1, .int z2] = decide (qx_sh t = some (.inl 8)) from rfl]; exact decide_eq_true h2)
theorem c324_56 : qx_code 324 56 = some (56, .ifCond .ne 5, 59, 61, 0, 0) := by decide +kernel
theorem s324_56 {L : Nat} {xs : Nat → Int32} {d x : Nat} {M : qxM} {st : List Value} {ls : qxL} {z : Int32} : Rs L xs (d) 324 56 ls (.int z :: st) M x = if z = 0 then Rs L xs (d) 324 59 ls st M x else Rs L xs (d) 324 61 ls st M x := Rs_ite c324_56 rfl
theorem c324_59 : qx_code 324 59 = some (59, .iconst 0, 60, 0, 0, 0) := by decide +kernel
theorem s324_59 {L : Nat} {xs : Nat → Int32} {d x : Nat} {M : qxM} {st : List Value} {ls : qxL} : Rs L xs (d) 324 59 ls st M x = Rs L xs (d) 324 60 ls (.int (nI 0) :: st) M x := Rs_next c324_59 rfl
theorem c324_60 : qx_code 324 60 = some (60, .ireturn, 61, 0, 0, 0) := by decide +kernel
theorem s324_60 {L : Nat} {xs : Nat → Int32} {d x : Nat} {M : qxM} {ls : qxL} {z : Int32} : Rs L xs (d) 324 60 ls [.int z] M x = some (.inl (some (.int z)), M, x) := Rs_ret c324_60 rfl
theorem c324_61 : qx_code 324 61 = some (61, .aload_n 0, 62, 0, 0, 0) := by decide +kernel
theorem s324_61 {L : Nat} {xs : Nat → Int32} {d x : Nat} {M : qxM} {st : List Value} {a1 a2 a3 : Option Value} {z : Nat} : Rs L xs (d) 324 61 [some (.ref z), a1, a2, a3] st M x = Rs L xs (d) 324 62 [some (.ref z), a1, a2, a3] (.ref z :: st) M x := Rs_next c324_61 rfl
theorem c324_62 : qx_code 324 62 = some (62, .invokevirtual 387, 65, 319, 1, 2201) := by decide +kernel
theorem s324_62 {L : Nat} {xs : Nat → Int32} {d x : Nat} {M : qxM} {st : List Value} {ls : qxL} {t : Nat} (hk : qx_kd t = 18) (hs : st.length ≤ 4) : Rs L xs (d + 1) 324 62 ls (.ref t :: st) M x = (Rs L xs d 319 0 [some (.ref t)] [] M 0).bind (qx_kn L xs (d + 1) 324 62 65 319 ls st x) := by
  have h1 : qx_act L xs (qx_rt 324) (62, .invokevirtual 387, 65, 319, 1, 2201) ls (.ref t :: st) M = if 1 ≤ (.ref t :: st).length ∧ st.length ≤ 4 then some (.inr (.inr (.inr (319, [.ref t], st)))) else none := rfl
  rw [if_pos ⟨by simp [List.length_cons]; try omega, hs⟩] at h1
  have h2 := qx_kd_obj (k := 8) (by decide) hk
  exact Rs_call c324_62 h1 (by rw [show qx_args 319 [.ref t] = decide (qx_sh t = some (.inl 8)) from rfl]; exact decide_eq_true h2)
theorem c324_65 : qx_code 324 65 = some (65, .aload_n 0, 66, 0, 0, 0) := by decide +kernel
theorem s324_65 {L : Nat} {xs : Nat → Int32} {d x : Nat} {M : qxM} {st : List Value} {a1 a2 a3 : Option Value} {z : Nat} : Rs L xs (d) 324 65 [some (.ref z), a1, a2, a3] st M x = Rs L xs (d) 324 66 [some (.ref z), a1, a2, a3] (.ref z :: st) M x := Rs_next c324_65 rfl
theorem c324_66 : qx_code 324 66 = some (66, .iload_n 1, 67, 0, 0, 0) := by decide +kernel
theorem s324_66 {L : Nat} {xs : Nat → Int32} {d x : Nat} {M : qxM} {st : List Value} {a0 a2 a3 : Option Value} {z : Int32} : Rs L xs (d) 324 66 [a0, some (.int z), a2, a3] st M x = Rs L xs (d) 324 67 [a0, some (.int z), a2, a3] (.int z :: st) M x := Rs_next c324_66 rfl
theorem c324_67 : qx_code 324 67 = some (67, .iload_n 2, 68, 0, 0, 0) := by decide +kernel
theorem s324_67 {L : Nat} {xs : Nat → Int32} {d x : Nat} {M : qxM} {st : List Value} {a0 a1 a3 : Option Value} {z : Int32} : Rs L xs (d) 324 67 [a0, a1, some (.int z), a3] st M x = Rs L xs (d) 324 68 [a0, a1, some (.int z), a3] (.int z :: st) M x := Rs_next c324_67 rfl
theorem c324_68 : qx_code 324 68 = some (68, .invokevirtual 139, 71, 214, 3, 1753) := by decide +kernel
theorem s324_68 {L : Nat} {xs : Nat → Int32} {d x : Nat} {M : qxM} {st : List Value} {ls : qxL} {t : Nat} {z0 : Int32} {z1 : Int32} (hk : qx_kd t = 18) (hs : st.length ≤ 4) : Rs L xs (d + 1) 324 68 ls (.int z1 :: .int z0 :: .ref t :: st) M x = (Rs L xs d 214 0 [some (.ref t), some (.int z0), some (.int z1)] [] M 0).bind (qx_kn L xs (d + 1) 324 68 71 214 ls st x) := by
  have h1 : qx_act L xs (qx_rt 324) (68, .invokevirtual 139, 71, 214, 3, 1753) ls (.int z1 :: .int z0 :: .ref t :: st) M = if 3 ≤ (.int z1 :: .int z0 :: .ref t :: st).length ∧ st.length ≤ 4 then some (.inr (.inr (.inr (214, [.ref t, .int z0, .int z1], st)))) else none := rfl
  rw [if_pos ⟨by simp [List.length_cons]; try omega, hs⟩] at h1
  have h2 := qx_kd_obj (k := 8) (by decide) hk
  exact Rs_call c324_68 h1 (by rw [show qx_args 214 [.ref t, .int z0, .int z1] = decide (qx_sh t = some (.inl 8)) from rfl]; exact decide_eq_true h2)
theorem c324_71 : qx_code 324 71 = some (71, .aload_n 0, 72, 0, 0, 0) := by decide +kernel
theorem s324_71 {L : Nat} {xs : Nat → Int32} {d x : Nat} {M : qxM} {st : List Value} {a1 a2 a3 : Option Value} {z : Nat} : Rs L xs (d) 324 71 [some (.ref z), a1, a2, a3] st M x = Rs L xs (d) 324 72 [some (.ref z), a1, a2, a3] (.ref z :: st) M x := Rs_next c324_71 rfl
theorem c324_72 : qx_code 324 72 = some (72, .invokevirtual 223, 75, 224, 1, 1791) := by decide +kernel
theorem s324_72 {L : Nat} {xs : Nat → Int32} {d x : Nat} {M : qxM} {st : List Value} {ls : qxL} {t : Nat} (hk : qx_kd t = 18) (hs : st.length ≤ 4) : Rs L xs (d + 1) 324 72 ls (.ref t :: st) M x = (Rs L xs d 224 0 [some (.ref t)] [] M 0).bind (qx_kn L xs (d + 1) 324 72 75 224 ls st x) := by
  have h1 : qx_act L xs (qx_rt 324) (72, .invokevirtual 223, 75, 224, 1, 1791) ls (.ref t :: st) M = if 1 ≤ (.ref t :: st).length ∧ st.length ≤ 4 then some (.inr (.inr (.inr (224, [.ref t], st)))) else none := rfl
  rw [if_pos ⟨by simp [List.length_cons]; try omega, hs⟩] at h1
  have h2 := qx_kd_obj (k := 8) (by decide) hk
  exact Rs_call c324_72 h1 (by rw [show qx_args 224 [.ref t] = decide (qx_sh t = some (.inl 8)) from rfl]; exact decide_eq_true h2)
theorem c324_75 : qx_code 324 75 = some (75, .ireturn, 76, 0, 0, 0) := by decide +kernel
theorem s324_75 {L : Nat} {xs : Nat → Int32} {d x : Nat} {M : qxM} {ls : qxL} {z : Int32} : Rs L xs (d) 324 75 ls [.int z] M x = some (.inl (some (.int z)), M, x) := Rs_ret c324_75 rfl
theorem c325_0 : qx_code 325 0 = some (0, .aload_n 0, 1, 0, 0, 0) := by decide +kernel
theorem s325_0 {L : Nat} {xs : Nat → Int32} {d x : Nat} {M : qxM} {st : List Value} {a1 a2 a3 a4 : Option Value} {z : Nat} : Rs L xs (d) 325 0 [some (.ref z), a1, a2, a3, a4] st M x = Rs L xs (d) 325 1 [some (.ref z), a1, a2, a3, a4] (.ref z :: st) M x := Rs_next c325_0 rfl
theorem c325_1 : qx_code 325 1 = some (1, .getfield 187, 4, 8, 6, 1551) := by decide +kernel
theorem s325_1 {L : Nat} {xs : Nat → Int32} {d x : Nat} {M : qxM} {st : List Value} {ls : qxL} {t : Nat} (hk : qx_kd t = 18) : Rs L xs (d) 325 1 ls (.ref t :: st) M x = Rs L xs (d) 325 4 ls (.int (M.1 t 6) :: st) M x := Rs_when (qx_kd_obj (k := 8) (by decide) hk) c325_1 rfl
theorem c325_4 : qx_code 325 4 = some (4, .ifCond .eq 15, 7, 19, 0, 0) := by decide +kernel
theorem s325_4 {L : Nat} {xs : Nat → Int32} {d x : Nat} {M : qxM} {st : List Value} {ls : qxL} {z : Int32} : Rs L xs (d) 325 4 ls (.int z :: st) M x = if z = 0 then Rs L xs (d) 325 19 ls st M x else Rs L xs (d) 325 7 ls st M x := Rs_ite c325_4 rfl
theorem c325_7 : qx_code 325 7 = some (7, .aload_n 0, 8, 0, 0, 0) := by decide +kernel
theorem s325_7 {L : Nat} {xs : Nat → Int32} {d x : Nat} {M : qxM} {st : List Value} {a1 a2 a3 a4 : Option Value} {z : Nat} : Rs L xs (d) 325 7 [some (.ref z), a1, a2, a3, a4] st M x = Rs L xs (d) 325 8 [some (.ref z), a1, a2, a3, a4] (.ref z :: st) M x := Rs_next c325_7 rfl
theorem c325_8 : qx_code 325 8 = some (8, .iload_n 1, 9, 0, 0, 0) := by decide +kernel
theorem s325_8 {L : Nat} {xs : Nat → Int32} {d x : Nat} {M : qxM} {st : List Value} {a0 a2 a3 a4 : Option Value} {z : Int32} : Rs L xs (d) 325 8 [a0, some (.int z), a2, a3, a4] st M x = Rs L xs (d) 325 9 [a0, some (.int z), a2, a3, a4] (.int z :: st) M x := Rs_next c325_8 rfl
theorem c325_9 : qx_code 325 9 = some (9, .invokevirtual 226, 12, 211, 2, 1803) := by decide +kernel
theorem s325_9 {L : Nat} {xs : Nat → Int32} {d x : Nat} {M : qxM} {st : List Value} {ls : qxL} {t : Nat} {z0 : Int32} (hk : qx_kd t = 18) (hs : st.length ≤ 4) : Rs L xs (d + 1) 325 9 ls (.int z0 :: .ref t :: st) M x = (Rs L xs d 211 0 [some (.ref t), some (.int z0)] [] M 0).bind (qx_kn L xs (d + 1) 325 9 12 211 ls st x) := by
  have h1 : qx_act L xs (qx_rt 325) (9, .invokevirtual 226, 12, 211, 2, 1803) ls (.int z0 :: .ref t :: st) M = if 2 ≤ (.int z0 :: .ref t :: st).length ∧ st.length ≤ 4 then some (.inr (.inr (.inr (211, [.ref t, .int z0], st)))) else none := rfl
  rw [if_pos ⟨by simp [List.length_cons]; try omega, hs⟩] at h1
  have h2 := qx_kd_obj (k := 8) (by decide) hk
  exact Rs_call c325_9 h1 (by rw [show qx_args 211 [.ref t, .int z0] = decide (qx_sh t = some (.inl 8)) from rfl]; exact decide_eq_true h2)
theorem c325_12 : qx_code 325 12 = some (12, .ifCond .eq 7, 15, 19, 0, 0) := by decide +kernel
theorem s325_12 {L : Nat} {xs : Nat → Int32} {d x : Nat} {M : qxM} {st : List Value} {ls : qxL} {z : Int32} : Rs L xs (d) 325 12 ls (.int z :: st) M x = if z = 0 then Rs L xs (d) 325 19 ls st M x else Rs L xs (d) 325 15 ls st M x := Rs_ite c325_12 rfl
theorem c325_15 : qx_code 325 15 = some (15, .iconst 1, 16, 0, 0, 0) := by decide +kernel
theorem s325_15 {L : Nat} {xs : Nat → Int32} {d x : Nat} {M : qxM} {st : List Value} {ls : qxL} : Rs L xs (d) 325 15 ls st M x = Rs L xs (d) 325 16 ls (.int (nI 1) :: st) M x := Rs_next c325_15 rfl
theorem c325_16 : qx_code 325 16 = some (16, .goto 4, 19, 20, 0, 0) := by decide +kernel
theorem s325_16 {L : Nat} {xs : Nat → Int32} {d x : Nat} {M : qxM} {st : List Value} {ls : qxL} : Rs L xs (d) 325 16 ls st M x = Rs L xs (d) 325 20 ls st M x := Rs_next c325_16 rfl
theorem c325_19 : qx_code 325 19 = some (19, .iconst 0, 20, 0, 0, 0) := by decide +kernel
theorem s325_19 {L : Nat} {xs : Nat → Int32} {d x : Nat} {M : qxM} {st : List Value} {ls : qxL} : Rs L xs (d) 325 19 ls st M x = Rs L xs (d) 325 20 ls (.int (nI 0) :: st) M x := Rs_next c325_19 rfl
theorem c325_20 : qx_code 325 20 = some (20, .istore_n 2, 21, 0, 0, 0) := by decide +kernel
theorem s325_20i {L : Nat} {xs : Nat → Int32} {d x : Nat} {M : qxM} {st : List Value} {a0 a2 a3 a4 : Option Value} {z : Int32} {y : Int32} : Rs L xs (d) 325 20 [a0, some (.int y), a2, a3, a4] (.int z :: st) M x = Rs L xs (d) 325 21 [a0, some (.int y), some (.int z), a3, a4] st M x := Rs_next c325_20 rfl
theorem s325_20r {L : Nat} {xs : Nat → Int32} {d x : Nat} {M : qxM} {st : List Value} {a0 a2 a3 a4 : Option Value} {z : Int32} {y : Nat} : Rs L xs (d) 325 20 [a0, some (.ref y), a2, a3, a4] (.int z :: st) M x = Rs L xs (d) 325 21 [a0, some (.ref y), some (.int z), a3, a4] st M x := Rs_next c325_20 rfl
theorem s325_20n {L : Nat} {xs : Nat → Int32} {d x : Nat} {M : qxM} {st : List Value} {a0 a2 a3 a4 : Option Value} {z : Int32} : Rs L xs (d) 325 20 [a0, none, a2, a3, a4] (.int z :: st) M x = Rs L xs (d) 325 21 [a0, none, some (.int z), a3, a4] st M x := Rs_next c325_20 rfl
theorem c325_21 : qx_code 325 21 = some (21, .aload_n 0, 22, 0, 0, 0) := by decide +kernel
theorem s325_21 {L : Nat} {xs : Nat → Int32} {d x : Nat} {M : qxM} {st : List Value} {a1 a2 a3 a4 : Option Value} {z : Nat} : Rs L xs (d) 325 21 [some (.ref z), a1, a2, a3, a4] st M x = Rs L xs (d) 325 22 [some (.ref z), a1, a2, a3, a4] (.ref z :: st) M x := Rs_next c325_21 rfl
theorem c325_22 : qx_code 325 22 = some (22, .aload_n 0, 23, 0, 0, 0) := by decide +kernel
theorem s325_22 {L : Nat} {xs : Nat → Int32} {d x : Nat} {M : qxM} {st : List Value} {a1 a2 a3 a4 : Option Value} {z : Nat} : Rs L xs (d) 325 22 [some (.ref z), a1, a2, a3, a4] st M x = Rs L xs (d) 325 23 [some (.ref z), a1, a2, a3, a4] (.ref z :: st) M x := Rs_next c325_22 rfl
theorem c325_23 : qx_code 325 23 = some (23, .getfield 187, 26, 8, 6, 1551) := by decide +kernel
theorem s325_23 {L : Nat} {xs : Nat → Int32} {d x : Nat} {M : qxM} {st : List Value} {ls : qxL} {t : Nat} (hk : qx_kd t = 18) : Rs L xs (d) 325 23 ls (.ref t :: st) M x = Rs L xs (d) 325 26 ls (.int (M.1 t 6) :: st) M x := Rs_when (qx_kd_obj (k := 8) (by decide) hk) c325_23 rfl
theorem c325_26 : qx_code 325 26 = some (26, .iload_n 2, 27, 0, 0, 0) := by decide +kernel
theorem s325_26 {L : Nat} {xs : Nat → Int32} {d x : Nat} {M : qxM} {st : List Value} {a0 a1 a3 a4 : Option Value} {z : Int32} : Rs L xs (d) 325 26 [a0, a1, some (.int z), a3, a4] st M x = Rs L xs (d) 325 27 [a0, a1, some (.int z), a3, a4] (.int z :: st) M x := Rs_next c325_26 rfl
theorem c325_27 : qx_code 325 27 = some (27, .iload_n 2, 28, 0, 0, 0) := by decide +kernel
theorem s325_27 {L : Nat} {xs : Nat → Int32} {d x : Nat} {M : qxM} {st : List Value} {a0 a1 a3 a4 : Option Value} {z : Int32} : Rs L xs (d) 325 27 [a0, a1, some (.int z), a3, a4] st M x = Rs L xs (d) 325 28 [a0, a1, some (.int z), a3, a4] (.int z :: st) M x := Rs_next c325_27 rfl
theorem c325_28 : qx_code 325 28 = some (28, .ifCond .eq 15, 31, 43, 0, 0) := by decide +kernel
theorem s325_28 {L : Nat} {xs : Nat → Int32} {d x : Nat} {M : qxM} {st : List Value} {ls : qxL} {z : Int32} : Rs L xs (d) 325 28 ls (.int z :: st) M x = if z = 0 then Rs L xs (d) 325 43 ls st M x else Rs L xs (d) 325 31 ls st M x := Rs_ite c325_28 rfl
theorem c325_31 : qx_code 325 31 = some (31, .aload_n 0, 32, 0, 0, 0) := by decide +kernel
theorem s325_31 {L : Nat} {xs : Nat → Int32} {d x : Nat} {M : qxM} {st : List Value} {a1 a2 a3 a4 : Option Value} {z : Nat} : Rs L xs (d) 325 31 [some (.ref z), a1, a2, a3, a4] st M x = Rs L xs (d) 325 32 [some (.ref z), a1, a2, a3, a4] (.ref z :: st) M x := Rs_next c325_31 rfl
theorem c325_32 : qx_code 325 32 = some (32, .iload_n 1, 33, 0, 0, 0) := by decide +kernel
theorem s325_32 {L : Nat} {xs : Nat → Int32} {d x : Nat} {M : qxM} {st : List Value} {a0 a2 a3 a4 : Option Value} {z : Int32} : Rs L xs (d) 325 32 [a0, some (.int z), a2, a3, a4] st M x = Rs L xs (d) 325 33 [a0, some (.int z), a2, a3, a4] (.int z :: st) M x := Rs_next c325_32 rfl
theorem c325_33 : qx_code 325 33 = some (33, .invokevirtual 309, 36, 266, 2, 1902) := by decide +kernel
theorem s325_33 {L : Nat} {xs : Nat → Int32} {d x : Nat} {M : qxM} {st : List Value} {ls : qxL} {t : Nat} {z0 : Int32} (hk : qx_kd t = 18) (hs : st.length ≤ 4) : Rs L xs (d + 1) 325 33 ls (.int z0 :: .ref t :: st) M x = (Rs L xs d 266 0 [some (.ref t), some (.int z0)] [] M 0).bind (qx_kn L xs (d + 1) 325 33 36 266 ls st x) := by
  have h1 : qx_act L xs (qx_rt 325) (33, .invokevirtual 309, 36, 266, 2, 1902) ls (.int z0 :: .ref t :: st) M = if 2 ≤ (.int z0 :: .ref t :: st).length ∧ st.length ≤ 4 then some (.inr (.inr (.inr (266, [.ref t, .int z0], st)))) else none := rfl
  rw [if_pos ⟨by simp [List.length_cons]; try omega, hs⟩] at h1
  have h2 := qx_kd_obj (k := 8) (by decide) hk
  exact Rs_call c325_33 h1 (by rw [show qx_args 266 [.ref t, .int z0] = decide (qx_sh t = some (.inl 8)) from rfl]; exact decide_eq_true h2)
theorem c325_36 : qx_code 325 36 = some (36, .ifCond .le 7, 39, 43, 0, 0) := by decide +kernel
theorem s325_36 {L : Nat} {xs : Nat → Int32} {d x : Nat} {M : qxM} {st : List Value} {ls : qxL} {z : Int32} : Rs L xs (d) 325 36 ls (.int z :: st) M x = if z ≤ 0 then Rs L xs (d) 325 43 ls st M x else Rs L xs (d) 325 39 ls st M x := Rs_ite c325_36 rfl
theorem c325_39 : qx_code 325 39 = some (39, .iconst 1, 40, 0, 0, 0) := by decide +kernel
theorem s325_39 {L : Nat} {xs : Nat → Int32} {d x : Nat} {M : qxM} {st : List Value} {ls : qxL} : Rs L xs (d) 325 39 ls st M x = Rs L xs (d) 325 40 ls (.int (nI 1) :: st) M x := Rs_next c325_39 rfl
theorem c325_40 : qx_code 325 40 = some (40, .goto 4, 43, 44, 0, 0) := by decide +kernel
theorem s325_40 {L : Nat} {xs : Nat → Int32} {d x : Nat} {M : qxM} {st : List Value} {ls : qxL} : Rs L xs (d) 325 40 ls st M x = Rs L xs (d) 325 44 ls st M x := Rs_next c325_40 rfl
theorem c325_43 : qx_code 325 43 = some (43, .iconst 0, 44, 0, 0, 0) := by decide +kernel
theorem s325_43 {L : Nat} {xs : Nat → Int32} {d x : Nat} {M : qxM} {st : List Value} {ls : qxL} : Rs L xs (d) 325 43 ls st M x = Rs L xs (d) 325 44 ls (.int (nI 0) :: st) M x := Rs_next c325_43 rfl
theorem c325_44 : qx_code 325 44 = some (44, .invokevirtual 49, 47, 180, 4, 1644) := by decide +kernel
theorem s325_44 {L : Nat} {xs : Nat → Int32} {d x : Nat} {M : qxM} {st : List Value} {ls : qxL} {t : Nat} {z0 : Int32} {z1 : Int32} {z2 : Int32} (hk : qx_kd t = 18) (hs : st.length ≤ 4) : Rs L xs (d + 1) 325 44 ls (.int z2 :: .int z1 :: .int z0 :: .ref t :: st) M x = (Rs L xs d 180 0 [some (.ref t), some (.int z0), some (.int z1), some (.int z2)] [] M 0).bind (qx_kn L xs (d + 1) 325 44 47 180 ls st x) := by
  have h1 : qx_act L xs (qx_rt 325) (44, .invokevirtual 49, 47, 180, 4, 1644) ls (.int z2 :: .int z1 :: .int z0 :: .ref t :: st) M = if 4 ≤ (.int z2 :: .int z1 :: .int z0 :: .ref t :: st).length ∧ st.length ≤ 4 then some (.inr (.inr (.inr (180, [.ref t, .int z0, .int z1, .int z2], st)))) else none := rfl
  rw [if_pos ⟨by simp [List.length_cons]; try omega, hs⟩] at h1
  have h2 := qx_kd_obj (k := 8) (by decide) hk
  exact Rs_call c325_44 h1 (by rw [show qx_args 180 [.ref t, .int z0, .int z1, .int z2] = decide (qx_sh t = some (.inl 8)) from rfl]; exact decide_eq_true h2)
theorem c325_47 : qx_code 325 47 = some (47, .ifCond .ne 5, 50, 52, 0, 0) := by decide +kernel
theorem s325_47 {L : Nat} {xs : Nat → Int32} {d x : Nat} {M : qxM} {st : List Value} {ls : qxL} {z : Int32} : Rs L xs (d) 325 47 ls (.int z :: st) M x = if z = 0 then Rs L xs (d) 325 50 ls st M x else Rs L xs (d) 325 52 ls st M x := Rs_ite c325_47 rfl
theorem c325_50 : qx_code 325 50 = some (50, .iconst 0, 51, 0, 0, 0) := by decide +kernel
theorem s325_50 {L : Nat} {xs : Nat → Int32} {d x : Nat} {M : qxM} {st : List Value} {ls : qxL} : Rs L xs (d) 325 50 ls st M x = Rs L xs (d) 325 51 ls (.int (nI 0) :: st) M x := Rs_next c325_50 rfl
theorem c325_51 : qx_code 325 51 = some (51, .ireturn, 52, 0, 0, 0) := by decide +kernel
theorem s325_51 {L : Nat} {xs : Nat → Int32} {d x : Nat} {M : qxM} {ls : qxL} {z : Int32} : Rs L xs (d) 325 51 ls [.int z] M x = some (.inl (some (.int z)), M, x) := Rs_ret c325_51 rfl
theorem c325_52 : qx_code 325 52 = some (52, .aload_n 0, 53, 0, 0, 0) := by decide +kernel
theorem s325_52 {L : Nat} {xs : Nat → Int32} {d x : Nat} {M : qxM} {st : List Value} {a1 a2 a3 a4 : Option Value} {z : Nat} : Rs L xs (d) 325 52 [some (.ref z), a1, a2, a3, a4] st M x = Rs L xs (d) 325 53 [some (.ref z), a1, a2, a3, a4] (.ref z :: st) M x := Rs_next c325_52 rfl
theorem c325_53 : qx_code 325 53 = some (53, .invokevirtual 381, 56, 318, 1, 2177) := by decide +kernel
theorem s325_53 {L : Nat} {xs : Nat → Int32} {d x : Nat} {M : qxM} {st : List Value} {ls : qxL} {t : Nat} (hk : qx_kd t = 18) (hs : st.length ≤ 4) : Rs L xs (d + 1) 325 53 ls (.ref t :: st) M x = (Rs L xs d 318 0 [some (.ref t), none] [] M 0).bind (qx_kn L xs (d + 1) 325 53 56 318 ls st x) := by
  have h1 : qx_act L xs (qx_rt 325) (53, .invokevirtual 381, 56, 318, 1, 2177) ls (.ref t :: st) M = if 1 ≤ (.ref t :: st).length ∧ st.length ≤ 4 then some (.inr (.inr (.inr (318, [.ref t], st)))) else none := rfl
  rw [if_pos ⟨by simp [List.length_cons]; try omega, hs⟩] at h1
  have h2 := qx_kd_obj (k := 8) (by decide) hk
  exact Rs_call c325_53 h1 (by rw [show qx_args 318 [.ref t] = decide (qx_sh t = some (.inl 8)) from rfl]; exact decide_eq_true h2)
theorem c325_56 : qx_code 325 56 = some (56, .aload_n 0, 57, 0, 0, 0) := by decide +kernel
theorem s325_56 {L : Nat} {xs : Nat → Int32} {d x : Nat} {M : qxM} {st : List Value} {a1 a2 a3 a4 : Option Value} {z : Nat} : Rs L xs (d) 325 56 [some (.ref z), a1, a2, a3, a4] st M x = Rs L xs (d) 325 57 [some (.ref z), a1, a2, a3, a4] (.ref z :: st) M x := Rs_next c325_56 rfl
theorem c325_57 : qx_code 325 57 = some (57, .getfield 9, 60, 8, 1, 1546) := by decide +kernel
theorem s325_57 {L : Nat} {xs : Nat → Int32} {d x : Nat} {M : qxM} {st : List Value} {ls : qxL} {t : Nat} (hk : qx_kd t = 18) : Rs L xs (d) 325 57 ls (.ref t :: st) M x = Rs L xs (d) 325 60 ls (.ref (t + 1) :: st) M x := Rs_when (qx_kd_obj (k := 8) (by decide) hk) c325_57 rfl
theorem c325_60 : qx_code 325 60 = some (60, .bipush 125, 62, 0, 0, 0) := by decide +kernel
theorem s325_60 {L : Nat} {xs : Nat → Int32} {d x : Nat} {M : qxM} {st : List Value} {ls : qxL} : Rs L xs (d) 325 60 ls st M x = Rs L xs (d) 325 62 ls (.int (nI 125) :: st) M x := Rs_next c325_60 rfl
theorem c325_62 : qx_code 325 62 = some (62, .iload_n 1, 63, 0, 0, 0) := by decide +kernel
theorem s325_62 {L : Nat} {xs : Nat → Int32} {d x : Nat} {M : qxM} {st : List Value} {a0 a2 a3 a4 : Option Value} {z : Int32} : Rs L xs (d) 325 62 [a0, some (.int z), a2, a3, a4] st M x = Rs L xs (d) 325 63 [a0, some (.int z), a2, a3, a4] (.int z :: st) M x := Rs_next c325_62 rfl
theorem c325_63 : qx_code 325 63 = some (63, .iadd, 64, 0, 0, 0) := by decide +kernel
theorem s325_63 {L : Nat} {xs : Nat → Int32} {d x : Nat} {M : qxM} {st : List Value} {ls : qxL} {z y : Int32} : Rs L xs (d) 325 63 ls (.int y :: .int z :: st) M x = Rs L xs (d) 325 64 ls (.int (z + y) :: st) M x := Rs_next c325_63 rfl
theorem c325_64 : qx_code 325 64 = some (64, .iaload, 65, 0, 0, 0) := by decide +kernel
theorem s325_64 {L : Nat} {xs : Nat → Int32} {d x : Nat} {M : qxM} {st : List Value} {ls : qxL} {t : Nat} {j : Int32} (hk : qx_kd t = 0) (hj : qx_ib j (qx_ln t) = true) : Rs L xs (d) 325 64 ls (.int j :: .ref t :: st) M x = Rs L xs (d) 325 65 ls (.int (M.1 t j.toNatClampNeg) :: st) M x := by
  have h1 := qx_kd_row (k := 0) (by decide) hk
  exact Rs_unless (qx_ib_not hj) c325_64 (by unfold qx_act; dsimp only; rw [h1]; rfl)
theorem c325_65 : qx_code 325 65 = some (65, .istore_n 3, 66, 0, 0, 0) := by decide +kernel
theorem s325_65i {L : Nat} {xs : Nat → Int32} {d x : Nat} {M : qxM} {st : List Value} {a0 a1 a3 a4 : Option Value} {z : Int32} {y : Int32} : Rs L xs (d) 325 65 [a0, a1, some (.int y), a3, a4] (.int z :: st) M x = Rs L xs (d) 325 66 [a0, a1, some (.int y), some (.int z), a4] st M x := Rs_next c325_65 rfl
theorem s325_65r {L : Nat} {xs : Nat → Int32} {d x : Nat} {M : qxM} {st : List Value} {a0 a1 a3 a4 : Option Value} {z : Int32} {y : Nat} : Rs L xs (d) 325 65 [a0, a1, some (.ref y), a3, a4] (.int z :: st) M x = Rs L xs (d) 325 66 [a0, a1, some (.ref y), some (.int z), a4] st M x := Rs_next c325_65 rfl
theorem s325_65n {L : Nat} {xs : Nat → Int32} {d x : Nat} {M : qxM} {st : List Value} {a0 a1 a3 a4 : Option Value} {z : Int32} : Rs L xs (d) 325 65 [a0, a1, none, a3, a4] (.int z :: st) M x = Rs L xs (d) 325 66 [a0, a1, none, some (.int z), a4] st M x := Rs_next c325_65 rfl
theorem c325_66 : qx_code 325 66 = some (66, .aload_n 0, 67, 0, 0, 0) := by decide +kernel
theorem s325_66 {L : Nat} {xs : Nat → Int32} {d x : Nat} {M : qxM} {st : List Value} {a1 a2 a3 a4 : Option Value} {z : Nat} : Rs L xs (d) 325 66 [some (.ref z), a1, a2, a3, a4] st M x = Rs L xs (d) 325 67 [some (.ref z), a1, a2, a3, a4] (.ref z :: st) M x := Rs_next c325_66 rfl
theorem c325_67 : qx_code 325 67 = some (67, .getfield 9, 70, 8, 1, 1546) := by decide +kernel
theorem s325_67 {L : Nat} {xs : Nat → Int32} {d x : Nat} {M : qxM} {st : List Value} {ls : qxL} {t : Nat} (hk : qx_kd t = 18) : Rs L xs (d) 325 67 ls (.ref t :: st) M x = Rs L xs (d) 325 70 ls (.ref (t + 1) :: st) M x := Rs_when (qx_kd_obj (k := 8) (by decide) hk) c325_67 rfl
theorem c325_70 : qx_code 325 70 = some (70, .bipush 21, 72, 0, 0, 0) := by decide +kernel
theorem s325_70 {L : Nat} {xs : Nat → Int32} {d x : Nat} {M : qxM} {st : List Value} {ls : qxL} : Rs L xs (d) 325 70 ls st M x = Rs L xs (d) 325 72 ls (.int (nI 21) :: st) M x := Rs_next c325_70 rfl
theorem c325_72 : qx_code 325 72 = some (72, .iload_n 1, 73, 0, 0, 0) := by decide +kernel
theorem s325_72 {L : Nat} {xs : Nat → Int32} {d x : Nat} {M : qxM} {st : List Value} {a0 a2 a3 a4 : Option Value} {z : Int32} : Rs L xs (d) 325 72 [a0, some (.int z), a2, a3, a4] st M x = Rs L xs (d) 325 73 [a0, some (.int z), a2, a3, a4] (.int z :: st) M x := Rs_next c325_72 rfl
theorem c325_73 : qx_code 325 73 = some (73, .iadd, 74, 0, 0, 0) := by decide +kernel
theorem s325_73 {L : Nat} {xs : Nat → Int32} {d x : Nat} {M : qxM} {st : List Value} {ls : qxL} {z y : Int32} : Rs L xs (d) 325 73 ls (.int y :: .int z :: st) M x = Rs L xs (d) 325 74 ls (.int (z + y) :: st) M x := Rs_next c325_73 rfl
theorem c325_74 : qx_code 325 74 = some (74, .iconst (-1), 75, 0, 0, 0) := by decide +kernel
theorem s325_74 {L : Nat} {xs : Nat → Int32} {d x : Nat} {M : qxM} {st : List Value} {ls : qxL} : Rs L xs (d) 325 74 ls st M x = Rs L xs (d) 325 75 ls (.int (-1) :: st) M x := Rs_next c325_74 rfl
theorem c325_75 : qx_code 325 75 = some (75, .iastore, 76, 0, 0, 0) := by decide +kernel
theorem s325_75 {L : Nat} {xs : Nat → Int32} {d x : Nat} {M : qxM} {st : List Value} {ls : qxL} {t : Nat} {j : Int32} {z : Int32} (hk : qx_kd t = 0) (hj : qx_ib j (qx_ln t) = true) : Rs L xs (d) 325 75 ls (.int z :: .int j :: .ref t :: st) M x = Rs L xs (d) 325 76 ls st (qx_up M t j.toNatClampNeg z) x := by
  have h1 := qx_kd_row (k := 0) (by decide) hk
  exact Rs_unless (qx_ib_not hj) c325_75 (by unfold qx_act; dsimp only; rw [h1]; rfl)
theorem c325_76 : qx_code 325 76 = some (76, .iconst 1, 77, 0, 0, 0) := by decide +kernel
theorem s325_76 {L : Nat} {xs : Nat → Int32} {d x : Nat} {M : qxM} {st : List Value} {ls : qxL} : Rs L xs (d) 325 76 ls st M x = Rs L xs (d) 325 77 ls (.int (nI 1) :: st) M x := Rs_next c325_76 rfl
theorem c325_77 : qx_code 325 77 = some (77, .istore 4, 79, 0, 0, 0) := by decide +kernel
theorem s325_77i {L : Nat} {xs : Nat → Int32} {d x : Nat} {M : qxM} {st : List Value} {a0 a1 a2 a4 : Option Value} {z : Int32} {y : Int32} : Rs L xs (d) 325 77 [a0, a1, a2, some (.int y), a4] (.int z :: st) M x = Rs L xs (d) 325 79 [a0, a1, a2, some (.int y), some (.int z)] st M x := Rs_next c325_77 rfl
theorem s325_77r {L : Nat} {xs : Nat → Int32} {d x : Nat} {M : qxM} {st : List Value} {a0 a1 a2 a4 : Option Value} {z : Int32} {y : Nat} : Rs L xs (d) 325 77 [a0, a1, a2, some (.ref y), a4] (.int z :: st) M x = Rs L xs (d) 325 79 [a0, a1, a2, some (.ref y), some (.int z)] st M x := Rs_next c325_77 rfl
theorem s325_77n {L : Nat} {xs : Nat → Int32} {d x : Nat} {M : qxM} {st : List Value} {a0 a1 a2 a4 : Option Value} {z : Int32} : Rs L xs (d) 325 77 [a0, a1, a2, none, a4] (.int z :: st) M x = Rs L xs (d) 325 79 [a0, a1, a2, none, some (.int z)] st M x := Rs_next c325_77 rfl
theorem c325_79 : qx_code 325 79 = some (79, .iload 4, 81, 0, 0, 0) := by decide +kernel
theorem s325_79 {L : Nat} {xs : Nat → Int32} {d x : Nat} {M : qxM} {st : List Value} {a0 a1 a2 a3 : Option Value} {z : Int32} : Rs L xs (d) 325 79 [a0, a1, a2, a3, some (.int z)] st M x = Rs L xs (d) 325 81 [a0, a1, a2, a3, some (.int z)] (.int z :: st) M x := Rs_next c325_79 rfl
theorem c325_81 : qx_code 325 81 = some (81, .iload_n 3, 82, 0, 0, 0) := by decide +kernel
theorem s325_81 {L : Nat} {xs : Nat → Int32} {d x : Nat} {M : qxM} {st : List Value} {a0 a1 a2 a4 : Option Value} {z : Int32} : Rs L xs (d) 325 81 [a0, a1, a2, some (.int z), a4] st M x = Rs L xs (d) 325 82 [a0, a1, a2, some (.int z), a4] (.int z :: st) M x := Rs_next c325_81 rfl
theorem c325_82 : qx_code 325 82 = some (82, .if_icmp .ge 29, 85, 111, 0, 0) := by decide +kernel
theorem s325_82 {L : Nat} {xs : Nat → Int32} {d x : Nat} {M : qxM} {st : List Value} {ls : qxL} {z y : Int32} : Rs L xs (d) 325 82 ls (.int y :: .int z :: st) M x = if y ≤ z then Rs L xs (d) 325 111 ls st M x else Rs L xs (d) 325 85 ls st M x := Rs_ite c325_82 rfl
theorem c325_85 : qx_code 325 85 = some (85, .aload_n 0, 86, 0, 0, 0) := by decide +kernel
theorem s325_85 {L : Nat} {xs : Nat → Int32} {d x : Nat} {M : qxM} {st : List Value} {a1 a2 a3 a4 : Option Value} {z : Nat} : Rs L xs (d) 325 85 [some (.ref z), a1, a2, a3, a4] st M x = Rs L xs (d) 325 86 [some (.ref z), a1, a2, a3, a4] (.ref z :: st) M x := Rs_next c325_85 rfl
theorem c325_86 : qx_code 325 86 = some (86, .aload_n 0, 87, 0, 0, 0) := by decide +kernel
theorem s325_86 {L : Nat} {xs : Nat → Int32} {d x : Nat} {M : qxM} {st : List Value} {a1 a2 a3 a4 : Option Value} {z : Nat} : Rs L xs (d) 325 86 [some (.ref z), a1, a2, a3, a4] st M x = Rs L xs (d) 325 87 [some (.ref z), a1, a2, a3, a4] (.ref z :: st) M x := Rs_next c325_86 rfl
theorem c325_87 : qx_code 325 87 = some (87, .iload_n 1, 88, 0, 0, 0) := by decide +kernel
theorem s325_87 {L : Nat} {xs : Nat → Int32} {d x : Nat} {M : qxM} {st : List Value} {a0 a2 a3 a4 : Option Value} {z : Int32} : Rs L xs (d) 325 87 [a0, some (.int z), a2, a3, a4] st M x = Rs L xs (d) 325 88 [a0, some (.int z), a2, a3, a4] (.int z :: st) M x := Rs_next c325_87 rfl
theorem c325_88 : qx_code 325 88 = some (88, .iload 4, 90, 0, 0, 0) := by decide +kernel
theorem s325_88 {L : Nat} {xs : Nat → Int32} {d x : Nat} {M : qxM} {st : List Value} {a0 a1 a2 a3 : Option Value} {z : Int32} : Rs L xs (d) 325 88 [a0, a1, a2, a3, some (.int z)] st M x = Rs L xs (d) 325 90 [a0, a1, a2, a3, some (.int z)] (.int z :: st) M x := Rs_next c325_88 rfl
theorem c325_90 : qx_code 325 90 = some (90, .invokevirtual 241, 93, 235, 3, 1910) := by decide +kernel
theorem s325_90 {L : Nat} {xs : Nat → Int32} {d x : Nat} {M : qxM} {st : List Value} {ls : qxL} {t : Nat} {z0 : Int32} {z1 : Int32} (hk : qx_kd t = 18) (hs : st.length ≤ 4) : Rs L xs (d + 1) 325 90 ls (.int z1 :: .int z0 :: .ref t :: st) M x = (Rs L xs d 235 0 [some (.ref t), some (.int z0), some (.int z1)] [] M 0).bind (qx_kn L xs (d + 1) 325 90 93 235 ls st x) := by
  have h1 : qx_act L xs (qx_rt 325) (90, .invokevirtual 241, 93, 235, 3, 1910) ls (.int z1 :: .int z0 :: .ref t :: st) M = if 3 ≤ (.int z1 :: .int z0 :: .ref t :: st).length ∧ st.length ≤ 4 then some (.inr (.inr (.inr (235, [.ref t, .int z0, .int z1], st)))) else none := rfl
  rw [if_pos ⟨by simp [List.length_cons]; try omega, hs⟩] at h1
  have h2 := qx_kd_obj (k := 8) (by decide) hk
  exact Rs_call c325_90 h1 (by rw [show qx_args 235 [.ref t, .int z0, .int z1] = decide (qx_sh t = some (.inl 8)) from rfl]; exact decide_eq_true h2)
theorem c325_93 : qx_code 325 93 = some (93, .aload_n 0, 94, 0, 0, 0) := by decide +kernel
theorem s325_93 {L : Nat} {xs : Nat → Int32} {d x : Nat} {M : qxM} {st : List Value} {a1 a2 a3 a4 : Option Value} {z : Nat} : Rs L xs (d) 325 93 [some (.ref z), a1, a2, a3, a4] st M x = Rs L xs (d) 325 94 [some (.ref z), a1, a2, a3, a4] (.ref z :: st) M x := Rs_next c325_93 rfl
theorem c325_94 : qx_code 325 94 = some (94, .iload_n 1, 95, 0, 0, 0) := by decide +kernel
theorem s325_94 {L : Nat} {xs : Nat → Int32} {d x : Nat} {M : qxM} {st : List Value} {a0 a2 a3 a4 : Option Value} {z : Int32} : Rs L xs (d) 325 94 [a0, some (.int z), a2, a3, a4] st M x = Rs L xs (d) 325 95 [a0, some (.int z), a2, a3, a4] (.int z :: st) M x := Rs_next c325_94 rfl
theorem c325_95 : qx_code 325 95 = some (95, .iload 4, 97, 0, 0, 0) := by decide +kernel
theorem s325_95 {L : Nat} {xs : Nat → Int32} {d x : Nat} {M : qxM} {st : List Value} {a0 a1 a2 a3 : Option Value} {z : Int32} : Rs L xs (d) 325 95 [a0, a1, a2, a3, some (.int z)] st M x = Rs L xs (d) 325 97 [a0, a1, a2, a3, some (.int z)] (.int z :: st) M x := Rs_next c325_95 rfl
theorem c325_97 : qx_code 325 97 = some (97, .iconst 1, 98, 0, 0, 0) := by decide +kernel
theorem s325_97 {L : Nat} {xs : Nat → Int32} {d x : Nat} {M : qxM} {st : List Value} {ls : qxL} : Rs L xs (d) 325 97 ls st M x = Rs L xs (d) 325 98 ls (.int (nI 1) :: st) M x := Rs_next c325_97 rfl
theorem c325_98 : qx_code 325 98 = some (98, .iadd, 99, 0, 0, 0) := by decide +kernel
theorem s325_98 {L : Nat} {xs : Nat → Int32} {d x : Nat} {M : qxM} {st : List Value} {ls : qxL} {z y : Int32} : Rs L xs (d) 325 98 ls (.int y :: .int z :: st) M x = Rs L xs (d) 325 99 ls (.int (z + y) :: st) M x := Rs_next c325_98 rfl
theorem c325_99 : qx_code 325 99 = some (99, .invokevirtual 241, 102, 235, 3, 1910) := by decide +kernel
theorem s325_99 {L : Nat} {xs : Nat → Int32} {d x : Nat} {M : qxM} {st : List Value} {ls : qxL} {t : Nat} {z0 : Int32} {z1 : Int32} (hk : qx_kd t = 18) (hs : st.length ≤ 4) : Rs L xs (d + 1) 325 99 ls (.int z1 :: .int z0 :: .ref t :: st) M x = (Rs L xs d 235 0 [some (.ref t), some (.int z0), some (.int z1)] [] M 0).bind (qx_kn L xs (d + 1) 325 99 102 235 ls st x) := by
  have h1 : qx_act L xs (qx_rt 325) (99, .invokevirtual 241, 102, 235, 3, 1910) ls (.int z1 :: .int z0 :: .ref t :: st) M = if 3 ≤ (.int z1 :: .int z0 :: .ref t :: st).length ∧ st.length ≤ 4 then some (.inr (.inr (.inr (235, [.ref t, .int z0, .int z1], st)))) else none := rfl
  rw [if_pos ⟨by simp [List.length_cons]; try omega, hs⟩] at h1
  have h2 := qx_kd_obj (k := 8) (by decide) hk
  exact Rs_call c325_99 h1 (by rw [show qx_args 235 [.ref t, .int z0, .int z1] = decide (qx_sh t = some (.inl 8)) from rfl]; exact decide_eq_true h2)
theorem c325_102 : qx_code 325 102 = some (102, .invokevirtual 139, 105, 214, 3, 1753) := by decide +kernel
theorem s325_102 {L : Nat} {xs : Nat → Int32} {d x : Nat} {M : qxM} {st : List Value} {ls : qxL} {t : Nat} {z0 : Int32} {z1 : Int32} (hk : qx_kd t = 18) (hs : st.length ≤ 4) : Rs L xs (d + 1) 325 102 ls (.int z1 :: .int z0 :: .ref t :: st) M x = (Rs L xs d 214 0 [some (.ref t), some (.int z0), some (.int z1)] [] M 0).bind (qx_kn L xs (d + 1) 325 102 105 214 ls st x) := by
  have h1 : qx_act L xs (qx_rt 325) (102, .invokevirtual 139, 105, 214, 3, 1753) ls (.int z1 :: .int z0 :: .ref t :: st) M = if 3 ≤ (.int z1 :: .int z0 :: .ref t :: st).length ∧ st.length ≤ 4 then some (.inr (.inr (.inr (214, [.ref t, .int z0, .int z1], st)))) else none := rfl
  rw [if_pos ⟨by simp [List.length_cons]; try omega, hs⟩] at h1
  have h2 := qx_kd_obj (k := 8) (by decide) hk
  exact Rs_call c325_102 h1 (by rw [show qx_args 214 [.ref t, .int z0, .int z1] = decide (qx_sh t = some (.inl 8)) from rfl]; exact decide_eq_true h2)
theorem c325_105 : qx_code 325 105 = some (105, .iinc 4 2, 108, 0, 0, 0) := by decide +kernel
theorem s325_105i {L : Nat} {xs : Nat → Int32} {d x : Nat} {M : qxM} {st : List Value} {a0 a1 a2 : Option Value} {z : Int32} {y : Int32} : Rs L xs (d) 325 105 [a0, a1, a2, some (.int y), some (.int z)] st M x = Rs L xs (d) 325 108 [a0, a1, a2, some (.int y), some (.int (z + (nI 2)))] st M x := Rs_next c325_105 rfl
theorem s325_105r {L : Nat} {xs : Nat → Int32} {d x : Nat} {M : qxM} {st : List Value} {a0 a1 a2 : Option Value} {z : Int32} {y : Nat} : Rs L xs (d) 325 105 [a0, a1, a2, some (.ref y), some (.int z)] st M x = Rs L xs (d) 325 108 [a0, a1, a2, some (.ref y), some (.int (z + (nI 2)))] st M x := Rs_next c325_105 rfl
theorem s325_105n {L : Nat} {xs : Nat → Int32} {d x : Nat} {M : qxM} {st : List Value} {a0 a1 a2 : Option Value} {z : Int32} : Rs L xs (d) 325 105 [a0, a1, a2, none, some (.int z)] st M x = Rs L xs (d) 325 108 [a0, a1, a2, none, some (.int (z + (nI 2)))] st M x := Rs_next c325_105 rfl
theorem c325_108 : qx_code 325 108 = some (108, .goto (-29), 111, 79, 0, 0) := by decide +kernel
theorem s325_108 {L : Nat} {xs : Nat → Int32} {d x : Nat} {M : qxM} {st : List Value} {ls : qxL} : Rs L xs (d) 325 108 ls st M x = Rs L xs (d) 325 79 ls st M x := Rs_next c325_108 rfl
theorem c325_111 : qx_code 325 111 = some (111, .aload_n 0, 112, 0, 0, 0) := by decide +kernel
theorem s325_111 {L : Nat} {xs : Nat → Int32} {d x : Nat} {M : qxM} {st : List Value} {a1 a2 a3 a4 : Option Value} {z : Nat} : Rs L xs (d) 325 111 [some (.ref z), a1, a2, a3, a4] st M x = Rs L xs (d) 325 112 [some (.ref z), a1, a2, a3, a4] (.ref z :: st) M x := Rs_next c325_111 rfl
theorem c325_112 : qx_code 325 112 = some (112, .getfield 9, 115, 8, 1, 1546) := by decide +kernel
theorem s325_112 {L : Nat} {xs : Nat → Int32} {d x : Nat} {M : qxM} {st : List Value} {ls : qxL} {t : Nat} (hk : qx_kd t = 18) : Rs L xs (d) 325 112 ls (.ref t :: st) M x = Rs L xs (d) 325 115 ls (.ref (t + 1) :: st) M x := Rs_when (qx_kd_obj (k := 8) (by decide) hk) c325_112 rfl
theorem c325_115 : qx_code 325 115 = some (115, .bipush 36, 117, 0, 0, 0) := by decide +kernel
theorem s325_115 {L : Nat} {xs : Nat → Int32} {d x : Nat} {M : qxM} {st : List Value} {ls : qxL} : Rs L xs (d) 325 115 ls st M x = Rs L xs (d) 325 117 ls (.int (nI 36) :: st) M x := Rs_next c325_115 rfl
theorem c325_117 : qx_code 325 117 = some (117, .iaload, 118, 0, 0, 0) := by decide +kernel
theorem s325_117 {L : Nat} {xs : Nat → Int32} {d x : Nat} {M : qxM} {st : List Value} {ls : qxL} {t : Nat} {j : Int32} (hk : qx_kd t = 0) (hj : qx_ib j (qx_ln t) = true) : Rs L xs (d) 325 117 ls (.int j :: .ref t :: st) M x = Rs L xs (d) 325 118 ls (.int (M.1 t j.toNatClampNeg) :: st) M x := by
  have h1 := qx_kd_row (k := 0) (by decide) hk
  exact Rs_unless (qx_ib_not hj) c325_117 (by unfold qx_act; dsimp only; rw [h1]; rfl)
theorem c325_118 : qx_code 325 118 = some (118, .istore 4, 120, 0, 0, 0) := by decide +kernel
theorem s325_118i {L : Nat} {xs : Nat → Int32} {d x : Nat} {M : qxM} {st : List Value} {a0 a1 a2 a4 : Option Value} {z : Int32} {y : Int32} : Rs L xs (d) 325 118 [a0, a1, a2, some (.int y), a4] (.int z :: st) M x = Rs L xs (d) 325 120 [a0, a1, a2, some (.int y), some (.int z)] st M x := Rs_next c325_118 rfl
theorem s325_118r {L : Nat} {xs : Nat → Int32} {d x : Nat} {M : qxM} {st : List Value} {a0 a1 a2 a4 : Option Value} {z : Int32} {y : Nat} : Rs L xs (d) 325 118 [a0, a1, a2, some (.ref y), a4] (.int z :: st) M x = Rs L xs (d) 325 120 [a0, a1, a2, some (.ref y), some (.int z)] st M x := Rs_next c325_118 rfl
theorem s325_118n {L : Nat} {xs : Nat → Int32} {d x : Nat} {M : qxM} {st : List Value} {a0 a1 a2 a4 : Option Value} {z : Int32} : Rs L xs (d) 325 118 [a0, a1, a2, none, a4] (.int z :: st) M x = Rs L xs (d) 325 120 [a0, a1, a2, none, some (.int z)] st M x := Rs_next c325_118 rfl
theorem c325_120 : qx_code 325 120 = some (120, .aload_n 0, 121, 0, 0, 0) := by decide +kernel
theorem s325_120 {L : Nat} {xs : Nat → Int32} {d x : Nat} {M : qxM} {st : List Value} {a1 a2 a3 a4 : Option Value} {z : Nat} : Rs L xs (d) 325 120 [some (.ref z), a1, a2, a3, a4] st M x = Rs L xs (d) 325 121 [some (.ref z), a1, a2, a3, a4] (.ref z :: st) M x := Rs_next c325_120 rfl
theorem c325_121 : qx_code 325 121 = some (121, .invokevirtual 384, 124, 239, 1, 2193) := by decide +kernel
theorem s325_121 {L : Nat} {xs : Nat → Int32} {d x : Nat} {M : qxM} {st : List Value} {ls : qxL} {t : Nat} (hk : qx_kd t = 18) (hs : st.length ≤ 4) : Rs L xs (d + 1) 325 121 ls (.ref t :: st) M x = (Rs L xs d 239 0 [some (.ref t)] [] M 0).bind (qx_kn L xs (d + 1) 325 121 124 239 ls st x) := by
  have h1 : qx_act L xs (qx_rt 325) (121, .invokevirtual 384, 124, 239, 1, 2193) ls (.ref t :: st) M = if 1 ≤ (.ref t :: st).length ∧ st.length ≤ 4 then some (.inr (.inr (.inr (239, [.ref t], st)))) else none := rfl
  rw [if_pos ⟨by simp [List.length_cons]; try omega, hs⟩] at h1
  have h2 := qx_kd_obj (k := 8) (by decide) hk
  exact Rs_call c325_121 h1 (by rw [show qx_args 239 [.ref t] = decide (qx_sh t = some (.inl 8)) from rfl]; exact decide_eq_true h2)
theorem c325_124 : qx_code 325 124 = some (124, .aload_n 0, 125, 0, 0, 0) := by decide +kernel
theorem s325_124 {L : Nat} {xs : Nat → Int32} {d x : Nat} {M : qxM} {st : List Value} {a1 a2 a3 a4 : Option Value} {z : Nat} : Rs L xs (d) 325 124 [some (.ref z), a1, a2, a3, a4] st M x = Rs L xs (d) 325 125 [some (.ref z), a1, a2, a3, a4] (.ref z :: st) M x := Rs_next c325_124 rfl
theorem c325_125 : qx_code 325 125 = some (125, .iload 4, 127, 0, 0, 0) := by decide +kernel
theorem s325_125 {L : Nat} {xs : Nat → Int32} {d x : Nat} {M : qxM} {st : List Value} {a0 a1 a2 a3 : Option Value} {z : Int32} : Rs L xs (d) 325 125 [a0, a1, a2, a3, some (.int z)] st M x = Rs L xs (d) 325 127 [a0, a1, a2, a3, some (.int z)] (.int z :: st) M x := Rs_next c325_125 rfl
theorem c325_127 : qx_code 325 127 = some (127, .invokevirtual 132, 130, 213, 2, 1737) := by decide +kernel
theorem s325_127 {L : Nat} {xs : Nat → Int32} {d x : Nat} {M : qxM} {st : List Value} {ls : qxL} {t : Nat} {z0 : Int32} (hk : qx_kd t = 18) (hs : st.length ≤ 4) : Rs L xs (d + 1) 325 127 ls (.int z0 :: .ref t :: st) M x = (Rs L xs d 213 0 [some (.ref t), some (.int z0)] [] M 0).bind (qx_kn L xs (d + 1) 325 127 130 213 ls st x) := by
  have h1 : qx_act L xs (qx_rt 325) (127, .invokevirtual 132, 130, 213, 2, 1737) ls (.int z0 :: .ref t :: st) M = if 2 ≤ (.int z0 :: .ref t :: st).length ∧ st.length ≤ 4 then some (.inr (.inr (.inr (213, [.ref t, .int z0], st)))) else none := rfl
  rw [if_pos ⟨by simp [List.length_cons]; try omega, hs⟩] at h1
  have h2 := qx_kd_obj (k := 8) (by decide) hk
  exact Rs_call c325_127 h1 (by rw [show qx_args 213 [.ref t, .int z0] = decide (qx_sh t = some (.inl 8)) from rfl]; exact decide_eq_true h2)
theorem c325_130 : qx_code 325 130 = some (130, .ireturn, 131, 0, 0, 0) := by decide +kernel
theorem s325_130 {L : Nat} {xs : Nat → Int32} {d x : Nat} {M : qxM} {ls : qxL} {z : Int32} : Rs L xs (d) 325 130 ls [.int z] M x = some (.inl (some (.int z)), M, x) := Rs_ret c325_130 rfl
theorem c326_0 : qx_code 326 0 = some (0, .aload_n 0, 1, 0, 0, 0) := by decide +kernel
theorem s326_0 {L : Nat} {xs : Nat → Int32} {d x : Nat} {M : qxM} {st : List Value} {a1 a2 a3 : Option Value} {z : Nat} : Rs L xs (d) 326 0 [some (.ref z), a1, a2, a3] st M x = Rs L xs (d) 326 1 [some (.ref z), a1, a2, a3] (.ref z :: st) M x := Rs_next c326_0 rfl
theorem c326_1 : qx_code 326 1 = some (1, .getfield 187, 4, 8, 6, 1551) := by decide +kernel
theorem s326_1 {L : Nat} {xs : Nat → Int32} {d x : Nat} {M : qxM} {st : List Value} {ls : qxL} {t : Nat} (hk : qx_kd t = 18) : Rs L xs (d) 326 1 ls (.ref t :: st) M x = Rs L xs (d) 326 4 ls (.int (M.1 t 6) :: st) M x := Rs_when (qx_kd_obj (k := 8) (by decide) hk) c326_1 rfl
theorem c326_4 : qx_code 326 4 = some (4, .ifCond .eq 15, 7, 19, 0, 0) := by decide +kernel
theorem s326_4 {L : Nat} {xs : Nat → Int32} {d x : Nat} {M : qxM} {st : List Value} {ls : qxL} {z : Int32} : Rs L xs (d) 326 4 ls (.int z :: st) M x = if z = 0 then Rs L xs (d) 326 19 ls st M x else Rs L xs (d) 326 7 ls st M x := Rs_ite c326_4 rfl
theorem c326_7 : qx_code 326 7 = some (7, .aload_n 0, 8, 0, 0, 0) := by decide +kernel
theorem s326_7 {L : Nat} {xs : Nat → Int32} {d x : Nat} {M : qxM} {st : List Value} {a1 a2 a3 : Option Value} {z : Nat} : Rs L xs (d) 326 7 [some (.ref z), a1, a2, a3] st M x = Rs L xs (d) 326 8 [some (.ref z), a1, a2, a3] (.ref z :: st) M x := Rs_next c326_7 rfl
theorem c326_8 : qx_code 326 8 = some (8, .iload_n 1, 9, 0, 0, 0) := by decide +kernel
theorem s326_8 {L : Nat} {xs : Nat → Int32} {d x : Nat} {M : qxM} {st : List Value} {a0 a2 a3 : Option Value} {z : Int32} : Rs L xs (d) 326 8 [a0, some (.int z), a2, a3] st M x = Rs L xs (d) 326 9 [a0, some (.int z), a2, a3] (.int z :: st) M x := Rs_next c326_8 rfl
theorem c326_9 : qx_code 326 9 = some (9, .invokevirtual 226, 12, 211, 2, 1803) := by decide +kernel
theorem s326_9 {L : Nat} {xs : Nat → Int32} {d x : Nat} {M : qxM} {st : List Value} {ls : qxL} {t : Nat} {z0 : Int32} (hk : qx_kd t = 18) (hs : st.length ≤ 4) : Rs L xs (d + 1) 326 9 ls (.int z0 :: .ref t :: st) M x = (Rs L xs d 211 0 [some (.ref t), some (.int z0)] [] M 0).bind (qx_kn L xs (d + 1) 326 9 12 211 ls st x) := by
  have h1 : qx_act L xs (qx_rt 326) (9, .invokevirtual 226, 12, 211, 2, 1803) ls (.int z0 :: .ref t :: st) M = if 2 ≤ (.int z0 :: .ref t :: st).length ∧ st.length ≤ 4 then some (.inr (.inr (.inr (211, [.ref t, .int z0], st)))) else none := rfl
  rw [if_pos ⟨by simp [List.length_cons]; try omega, hs⟩] at h1
  have h2 := qx_kd_obj (k := 8) (by decide) hk
  exact Rs_call c326_9 h1 (by rw [show qx_args 211 [.ref t, .int z0] = decide (qx_sh t = some (.inl 8)) from rfl]; exact decide_eq_true h2)
theorem c326_12 : qx_code 326 12 = some (12, .ifCond .eq 7, 15, 19, 0, 0) := by decide +kernel
theorem s326_12 {L : Nat} {xs : Nat → Int32} {d x : Nat} {M : qxM} {st : List Value} {ls : qxL} {z : Int32} : Rs L xs (d) 326 12 ls (.int z :: st) M x = if z = 0 then Rs L xs (d) 326 19 ls st M x else Rs L xs (d) 326 15 ls st M x := Rs_ite c326_12 rfl
theorem c326_15 : qx_code 326 15 = some (15, .iconst 1, 16, 0, 0, 0) := by decide +kernel
theorem s326_15 {L : Nat} {xs : Nat → Int32} {d x : Nat} {M : qxM} {st : List Value} {ls : qxL} : Rs L xs (d) 326 15 ls st M x = Rs L xs (d) 326 16 ls (.int (nI 1) :: st) M x := Rs_next c326_15 rfl
theorem c326_16 : qx_code 326 16 = some (16, .goto 4, 19, 20, 0, 0) := by decide +kernel
theorem s326_16 {L : Nat} {xs : Nat → Int32} {d x : Nat} {M : qxM} {st : List Value} {ls : qxL} : Rs L xs (d) 326 16 ls st M x = Rs L xs (d) 326 20 ls st M x := Rs_next c326_16 rfl
theorem c326_19 : qx_code 326 19 = some (19, .iconst 0, 20, 0, 0, 0) := by decide +kernel
theorem s326_19 {L : Nat} {xs : Nat → Int32} {d x : Nat} {M : qxM} {st : List Value} {ls : qxL} : Rs L xs (d) 326 19 ls st M x = Rs L xs (d) 326 20 ls (.int (nI 0) :: st) M x := Rs_next c326_19 rfl
theorem c326_20 : qx_code 326 20 = some (20, .istore_n 2, 21, 0, 0, 0) := by decide +kernel
theorem s326_20i {L : Nat} {xs : Nat → Int32} {d x : Nat} {M : qxM} {st : List Value} {a0 a2 a3 : Option Value} {z : Int32} {y : Int32} : Rs L xs (d) 326 20 [a0, some (.int y), a2, a3] (.int z :: st) M x = Rs L xs (d) 326 21 [a0, some (.int y), some (.int z), a3] st M x := Rs_next c326_20 rfl
theorem s326_20r {L : Nat} {xs : Nat → Int32} {d x : Nat} {M : qxM} {st : List Value} {a0 a2 a3 : Option Value} {z : Int32} {y : Nat} : Rs L xs (d) 326 20 [a0, some (.ref y), a2, a3] (.int z :: st) M x = Rs L xs (d) 326 21 [a0, some (.ref y), some (.int z), a3] st M x := Rs_next c326_20 rfl
theorem s326_20n {L : Nat} {xs : Nat → Int32} {d x : Nat} {M : qxM} {st : List Value} {a0 a2 a3 : Option Value} {z : Int32} : Rs L xs (d) 326 20 [a0, none, a2, a3] (.int z :: st) M x = Rs L xs (d) 326 21 [a0, none, some (.int z), a3] st M x := Rs_next c326_20 rfl
theorem c326_21 : qx_code 326 21 = some (21, .aload_n 0, 22, 0, 0, 0) := by decide +kernel
theorem s326_21 {L : Nat} {xs : Nat → Int32} {d x : Nat} {M : qxM} {st : List Value} {a1 a2 a3 : Option Value} {z : Nat} : Rs L xs (d) 326 21 [some (.ref z), a1, a2, a3] st M x = Rs L xs (d) 326 22 [some (.ref z), a1, a2, a3] (.ref z :: st) M x := Rs_next c326_21 rfl
theorem c326_22 : qx_code 326 22 = some (22, .aload_n 0, 23, 0, 0, 0) := by decide +kernel
theorem s326_22 {L : Nat} {xs : Nat → Int32} {d x : Nat} {M : qxM} {st : List Value} {a1 a2 a3 : Option Value} {z : Nat} : Rs L xs (d) 326 22 [some (.ref z), a1, a2, a3] st M x = Rs L xs (d) 326 23 [some (.ref z), a1, a2, a3] (.ref z :: st) M x := Rs_next c326_22 rfl
theorem c326_23 : qx_code 326 23 = some (23, .getfield 187, 26, 8, 6, 1551) := by decide +kernel
theorem s326_23 {L : Nat} {xs : Nat → Int32} {d x : Nat} {M : qxM} {st : List Value} {ls : qxL} {t : Nat} (hk : qx_kd t = 18) : Rs L xs (d) 326 23 ls (.ref t :: st) M x = Rs L xs (d) 326 26 ls (.int (M.1 t 6) :: st) M x := Rs_when (qx_kd_obj (k := 8) (by decide) hk) c326_23 rfl
theorem c326_26 : qx_code 326 26 = some (26, .iload_n 2, 27, 0, 0, 0) := by decide +kernel
theorem s326_26 {L : Nat} {xs : Nat → Int32} {d x : Nat} {M : qxM} {st : List Value} {a0 a1 a3 : Option Value} {z : Int32} : Rs L xs (d) 326 26 [a0, a1, some (.int z), a3] st M x = Rs L xs (d) 326 27 [a0, a1, some (.int z), a3] (.int z :: st) M x := Rs_next c326_26 rfl
theorem c326_27 : qx_code 326 27 = some (27, .iload_n 2, 28, 0, 0, 0) := by decide +kernel
theorem s326_27 {L : Nat} {xs : Nat → Int32} {d x : Nat} {M : qxM} {st : List Value} {a0 a1 a3 : Option Value} {z : Int32} : Rs L xs (d) 326 27 [a0, a1, some (.int z), a3] st M x = Rs L xs (d) 326 28 [a0, a1, some (.int z), a3] (.int z :: st) M x := Rs_next c326_27 rfl
theorem c326_28 : qx_code 326 28 = some (28, .ifCond .eq 16, 31, 44, 0, 0) := by decide +kernel
theorem s326_28 {L : Nat} {xs : Nat → Int32} {d x : Nat} {M : qxM} {st : List Value} {ls : qxL} {z : Int32} : Rs L xs (d) 326 28 ls (.int z :: st) M x = if z = 0 then Rs L xs (d) 326 44 ls st M x else Rs L xs (d) 326 31 ls st M x := Rs_ite c326_28 rfl
theorem c326_31 : qx_code 326 31 = some (31, .aload_n 0, 32, 0, 0, 0) := by decide +kernel
theorem s326_31 {L : Nat} {xs : Nat → Int32} {d x : Nat} {M : qxM} {st : List Value} {a1 a2 a3 : Option Value} {z : Nat} : Rs L xs (d) 326 31 [some (.ref z), a1, a2, a3] st M x = Rs L xs (d) 326 32 [some (.ref z), a1, a2, a3] (.ref z :: st) M x := Rs_next c326_31 rfl
theorem c326_32 : qx_code 326 32 = some (32, .iload_n 1, 33, 0, 0, 0) := by decide +kernel
theorem s326_32 {L : Nat} {xs : Nat → Int32} {d x : Nat} {M : qxM} {st : List Value} {a0 a2 a3 : Option Value} {z : Int32} : Rs L xs (d) 326 32 [a0, some (.int z), a2, a3] st M x = Rs L xs (d) 326 33 [a0, some (.int z), a2, a3] (.int z :: st) M x := Rs_next c326_32 rfl
theorem c326_33 : qx_code 326 33 = some (33, .invokevirtual 132, 36, 213, 2, 1737) := by decide +kernel
theorem s326_33 {L : Nat} {xs : Nat → Int32} {d x : Nat} {M : qxM} {st : List Value} {ls : qxL} {t : Nat} {z0 : Int32} (hk : qx_kd t = 18) (hs : st.length ≤ 4) : Rs L xs (d + 1) 326 33 ls (.int z0 :: .ref t :: st) M x = (Rs L xs d 213 0 [some (.ref t), some (.int z0)] [] M 0).bind (qx_kn L xs (d + 1) 326 33 36 213 ls st x) := by
  have h1 : qx_act L xs (qx_rt 326) (33, .invokevirtual 132, 36, 213, 2, 1737) ls (.int z0 :: .ref t :: st) M = if 2 ≤ (.int z0 :: .ref t :: st).length ∧ st.length ≤ 4 then some (.inr (.inr (.inr (213, [.ref t, .int z0], st)))) else none := rfl
  rw [if_pos ⟨by simp [List.length_cons]; try omega, hs⟩] at h1
  have h2 := qx_kd_obj (k := 8) (by decide) hk
  exact Rs_call c326_33 h1 (by rw [show qx_args 213 [.ref t, .int z0] = decide (qx_sh t = some (.inl 8)) from rfl]; exact decide_eq_true h2)
theorem c326_36 : qx_code 326 36 = some (36, .iconst (-1), 37, 0, 0, 0) := by decide +kernel
theorem s326_36 {L : Nat} {xs : Nat → Int32} {d x : Nat} {M : qxM} {st : List Value} {ls : qxL} : Rs L xs (d) 326 36 ls st M x = Rs L xs (d) 326 37 ls (.int (-1) :: st) M x := Rs_next c326_36 rfl
theorem c326_37 : qx_code 326 37 = some (37, .if_icmp .eq 7, 40, 44, 0, 0) := by decide +kernel
theorem s326_37 {L : Nat} {xs : Nat → Int32} {d x : Nat} {M : qxM} {st : List Value} {ls : qxL} {z y : Int32} : Rs L xs (d) 326 37 ls (.int y :: .int z :: st) M x = if z = y then Rs L xs (d) 326 44 ls st M x else Rs L xs (d) 326 40 ls st M x := Rs_ite c326_37 rfl
theorem c326_40 : qx_code 326 40 = some (40, .iconst 1, 41, 0, 0, 0) := by decide +kernel
theorem s326_40 {L : Nat} {xs : Nat → Int32} {d x : Nat} {M : qxM} {st : List Value} {ls : qxL} : Rs L xs (d) 326 40 ls st M x = Rs L xs (d) 326 41 ls (.int (nI 1) :: st) M x := Rs_next c326_40 rfl
theorem c326_41 : qx_code 326 41 = some (41, .goto 4, 44, 45, 0, 0) := by decide +kernel
theorem s326_41 {L : Nat} {xs : Nat → Int32} {d x : Nat} {M : qxM} {st : List Value} {ls : qxL} : Rs L xs (d) 326 41 ls st M x = Rs L xs (d) 326 45 ls st M x := Rs_next c326_41 rfl
theorem c326_44 : qx_code 326 44 = some (44, .iconst 0, 45, 0, 0, 0) := by decide +kernel
theorem s326_44 {L : Nat} {xs : Nat → Int32} {d x : Nat} {M : qxM} {st : List Value} {ls : qxL} : Rs L xs (d) 326 44 ls st M x = Rs L xs (d) 326 45 ls (.int (nI 0) :: st) M x := Rs_next c326_44 rfl
theorem c326_45 : qx_code 326 45 = some (45, .invokevirtual 49, 48, 180, 4, 1644) := by decide +kernel
theorem s326_45 {L : Nat} {xs : Nat → Int32} {d x : Nat} {M : qxM} {st : List Value} {ls : qxL} {t : Nat} {z0 : Int32} {z1 : Int32} {z2 : Int32} (hk : qx_kd t = 18) (hs : st.length ≤ 4) : Rs L xs (d + 1) 326 45 ls (.int z2 :: .int z1 :: .int z0 :: .ref t :: st) M x = (Rs L xs d 180 0 [some (.ref t), some (.int z0), some (.int z1), some (.int z2)] [] M 0).bind (qx_kn L xs (d + 1) 326 45 48 180 ls st x) := by
  have h1 : qx_act L xs (qx_rt 326) (45, .invokevirtual 49, 48, 180, 4, 1644) ls (.int z2 :: .int z1 :: .int z0 :: .ref t :: st) M = if 4 ≤ (.int z2 :: .int z1 :: .int z0 :: .ref t :: st).length ∧ st.length ≤ 4 then some (.inr (.inr (.inr (180, [.ref t, .int z0, .int z1, .int z2], st)))) else none := rfl
  rw [if_pos ⟨by simp [List.length_cons]; try omega, hs⟩] at h1
  have h2 := qx_kd_obj (k := 8) (by decide) hk
  exact Rs_call c326_45 h1 (by rw [show qx_args 180 [.ref t, .int z0, .int z1, .int z2] = decide (qx_sh t = some (.inl 8)) from rfl]; exact decide_eq_true h2)
theorem c326_48 : qx_code 326 48 = some (48, .ifCond .ne 5, 51, 53, 0, 0) := by decide +kernel
theorem s326_48 {L : Nat} {xs : Nat → Int32} {d x : Nat} {M : qxM} {st : List Value} {ls : qxL} {z : Int32} : Rs L xs (d) 326 48 ls (.int z :: st) M x = if z = 0 then Rs L xs (d) 326 51 ls st M x else Rs L xs (d) 326 53 ls st M x := Rs_ite c326_48 rfl
theorem c326_51 : qx_code 326 51 = some (51, .iconst 0, 52, 0, 0, 0) := by decide +kernel
theorem s326_51 {L : Nat} {xs : Nat → Int32} {d x : Nat} {M : qxM} {st : List Value} {ls : qxL} : Rs L xs (d) 326 51 ls st M x = Rs L xs (d) 326 52 ls (.int (nI 0) :: st) M x := Rs_next c326_51 rfl
theorem c326_52 : qx_code 326 52 = some (52, .ireturn, 53, 0, 0, 0) := by decide +kernel
theorem s326_52 {L : Nat} {xs : Nat → Int32} {d x : Nat} {M : qxM} {ls : qxL} {z : Int32} : Rs L xs (d) 326 52 ls [.int z] M x = some (.inl (some (.int z)), M, x) := Rs_ret c326_52 rfl
theorem c326_53 : qx_code 326 53 = some (53, .aload_n 0, 54, 0, 0, 0) := by decide +kernel
theorem s326_53 {L : Nat} {xs : Nat → Int32} {d x : Nat} {M : qxM} {st : List Value} {a1 a2 a3 : Option Value} {z : Nat} : Rs L xs (d) 326 53 [some (.ref z), a1, a2, a3] st M x = Rs L xs (d) 326 54 [some (.ref z), a1, a2, a3] (.ref z :: st) M x := Rs_next c326_53 rfl
theorem c326_54 : qx_code 326 54 = some (54, .invokevirtual 387, 57, 319, 1, 2201) := by decide +kernel
theorem s326_54 {L : Nat} {xs : Nat → Int32} {d x : Nat} {M : qxM} {st : List Value} {ls : qxL} {t : Nat} (hk : qx_kd t = 18) (hs : st.length ≤ 4) : Rs L xs (d + 1) 326 54 ls (.ref t :: st) M x = (Rs L xs d 319 0 [some (.ref t)] [] M 0).bind (qx_kn L xs (d + 1) 326 54 57 319 ls st x) := by
  have h1 : qx_act L xs (qx_rt 326) (54, .invokevirtual 387, 57, 319, 1, 2201) ls (.ref t :: st) M = if 1 ≤ (.ref t :: st).length ∧ st.length ≤ 4 then some (.inr (.inr (.inr (319, [.ref t], st)))) else none := rfl
  rw [if_pos ⟨by simp [List.length_cons]; try omega, hs⟩] at h1
  have h2 := qx_kd_obj (k := 8) (by decide) hk
  exact Rs_call c326_54 h1 (by rw [show qx_args 319 [.ref t] = decide (qx_sh t = some (.inl 8)) from rfl]; exact decide_eq_true h2)
theorem c326_57 : qx_code 326 57 = some (57, .aload_n 0, 58, 0, 0, 0) := by decide +kernel
theorem s326_57 {L : Nat} {xs : Nat → Int32} {d x : Nat} {M : qxM} {st : List Value} {a1 a2 a3 : Option Value} {z : Nat} : Rs L xs (d) 326 57 [some (.ref z), a1, a2, a3] st M x = Rs L xs (d) 326 58 [some (.ref z), a1, a2, a3] (.ref z :: st) M x := Rs_next c326_57 rfl
theorem c326_58 : qx_code 326 58 = some (58, .iload_n 1, 59, 0, 0, 0) := by decide +kernel
theorem s326_58 {L : Nat} {xs : Nat → Int32} {d x : Nat} {M : qxM} {st : List Value} {a0 a2 a3 : Option Value} {z : Int32} : Rs L xs (d) 326 58 [a0, some (.int z), a2, a3] st M x = Rs L xs (d) 326 59 [a0, some (.int z), a2, a3] (.int z :: st) M x := Rs_next c326_58 rfl
theorem c326_59 : qx_code 326 59 = some (59, .invokevirtual 132, 62, 213, 2, 1737) := by decide +kernel
theorem s326_59 {L : Nat} {xs : Nat → Int32} {d x : Nat} {M : qxM} {st : List Value} {ls : qxL} {t : Nat} {z0 : Int32} (hk : qx_kd t = 18) (hs : st.length ≤ 4) : Rs L xs (d + 1) 326 59 ls (.int z0 :: .ref t :: st) M x = (Rs L xs d 213 0 [some (.ref t), some (.int z0)] [] M 0).bind (qx_kn L xs (d + 1) 326 59 62 213 ls st x) := by
  have h1 : qx_act L xs (qx_rt 326) (59, .invokevirtual 132, 62, 213, 2, 1737) ls (.int z0 :: .ref t :: st) M = if 2 ≤ (.int z0 :: .ref t :: st).length ∧ st.length ≤ 4 then some (.inr (.inr (.inr (213, [.ref t, .int z0], st)))) else none := rfl
  rw [if_pos ⟨by simp [List.length_cons]; try omega, hs⟩] at h1
  have h2 := qx_kd_obj (k := 8) (by decide) hk
  exact Rs_call c326_59 h1 (by rw [show qx_args 213 [.ref t, .int z0] = decide (qx_sh t = some (.inl 8)) from rfl]; exact decide_eq_true h2)
theorem c326_62 : qx_code 326 62 = some (62, .istore_n 3, 63, 0, 0, 0) := by decide +kernel
theorem s326_62i {L : Nat} {xs : Nat → Int32} {d x : Nat} {M : qxM} {st : List Value} {a0 a1 a3 : Option Value} {z : Int32} {y : Int32} : Rs L xs (d) 326 62 [a0, a1, some (.int y), a3] (.int z :: st) M x = Rs L xs (d) 326 63 [a0, a1, some (.int y), some (.int z)] st M x := Rs_next c326_62 rfl
theorem s326_62r {L : Nat} {xs : Nat → Int32} {d x : Nat} {M : qxM} {st : List Value} {a0 a1 a3 : Option Value} {z : Int32} {y : Nat} : Rs L xs (d) 326 62 [a0, a1, some (.ref y), a3] (.int z :: st) M x = Rs L xs (d) 326 63 [a0, a1, some (.ref y), some (.int z)] st M x := Rs_next c326_62 rfl
theorem s326_62n {L : Nat} {xs : Nat → Int32} {d x : Nat} {M : qxM} {st : List Value} {a0 a1 a3 : Option Value} {z : Int32} : Rs L xs (d) 326 62 [a0, a1, none, a3] (.int z :: st) M x = Rs L xs (d) 326 63 [a0, a1, none, some (.int z)] st M x := Rs_next c326_62 rfl
theorem c326_63 : qx_code 326 63 = some (63, .aload_n 0, 64, 0, 0, 0) := by decide +kernel
theorem s326_63 {L : Nat} {xs : Nat → Int32} {d x : Nat} {M : qxM} {st : List Value} {a1 a2 a3 : Option Value} {z : Nat} : Rs L xs (d) 326 63 [some (.ref z), a1, a2, a3] st M x = Rs L xs (d) 326 64 [some (.ref z), a1, a2, a3] (.ref z :: st) M x := Rs_next c326_63 rfl
theorem c326_64 : qx_code 326 64 = some (64, .iload_n 1, 65, 0, 0, 0) := by decide +kernel
theorem s326_64 {L : Nat} {xs : Nat → Int32} {d x : Nat} {M : qxM} {st : List Value} {a0 a2 a3 : Option Value} {z : Int32} : Rs L xs (d) 326 64 [a0, some (.int z), a2, a3] st M x = Rs L xs (d) 326 65 [a0, some (.int z), a2, a3] (.int z :: st) M x := Rs_next c326_64 rfl
theorem c326_65 : qx_code 326 65 = some (65, .invokevirtual 207, 68, 215, 2, 1761) := by decide +kernel
theorem s326_65 {L : Nat} {xs : Nat → Int32} {d x : Nat} {M : qxM} {st : List Value} {ls : qxL} {t : Nat} {z0 : Int32} (hk : qx_kd t = 18) (hs : st.length ≤ 4) : Rs L xs (d + 1) 326 65 ls (.int z0 :: .ref t :: st) M x = (Rs L xs d 215 0 [some (.ref t), some (.int z0)] [] M 0).bind (qx_kn L xs (d + 1) 326 65 68 215 ls st x) := by
  have h1 : qx_act L xs (qx_rt 326) (65, .invokevirtual 207, 68, 215, 2, 1761) ls (.int z0 :: .ref t :: st) M = if 2 ≤ (.int z0 :: .ref t :: st).length ∧ st.length ≤ 4 then some (.inr (.inr (.inr (215, [.ref t, .int z0], st)))) else none := rfl
  rw [if_pos ⟨by simp [List.length_cons]; try omega, hs⟩] at h1
  have h2 := qx_kd_obj (k := 8) (by decide) hk
  exact Rs_call c326_65 h1 (by rw [show qx_args 215 [.ref t, .int z0] = decide (qx_sh t = some (.inl 8)) from rfl]; exact decide_eq_true h2)
theorem c326_68 : qx_code 326 68 = some (68, .aload_n 0, 69, 0, 0, 0) := by decide +kernel
theorem s326_68 {L : Nat} {xs : Nat → Int32} {d x : Nat} {M : qxM} {st : List Value} {a1 a2 a3 : Option Value} {z : Nat} : Rs L xs (d) 326 68 [some (.ref z), a1, a2, a3] st M x = Rs L xs (d) 326 69 [some (.ref z), a1, a2, a3] (.ref z :: st) M x := Rs_next c326_68 rfl
theorem c326_69 : qx_code 326 69 = some (69, .getfield 9, 72, 8, 1, 1546) := by decide +kernel
theorem s326_69 {L : Nat} {xs : Nat → Int32} {d x : Nat} {M : qxM} {st : List Value} {ls : qxL} {t : Nat} (hk : qx_kd t = 18) : Rs L xs (d) 326 69 ls (.ref t :: st) M x = Rs L xs (d) 326 72 ls (.ref (t + 1) :: st) M x := Rs_when (qx_kd_obj (k := 8) (by decide) hk) c326_69 rfl
theorem c326_72 : qx_code 326 72 = some (72, .bipush 6, 74, 0, 0, 0) := by decide +kernel
theorem s326_72 {L : Nat} {xs : Nat → Int32} {d x : Nat} {M : qxM} {st : List Value} {ls : qxL} : Rs L xs (d) 326 72 ls st M x = Rs L xs (d) 326 74 ls (.int (nI 6) :: st) M x := Rs_next c326_72 rfl
theorem c326_74 : qx_code 326 74 = some (74, .dup2, 75, 0, 0, 0) := by decide +kernel
theorem s326_74 {L : Nat} {xs : Nat → Int32} {d x : Nat} {M : qxM} {st : List Value} {ls : qxL} {z : Nat} {y : Int32} : Rs L xs (d) 326 74 ls (.int y :: .ref z :: st) M x = Rs L xs (d) 326 75 ls (.int y :: .ref z :: .int y :: .ref z :: st) M x := Rs_next c326_74 rfl
theorem c326_75 : qx_code 326 75 = some (75, .iaload, 76, 0, 0, 0) := by decide +kernel
theorem s326_75 {L : Nat} {xs : Nat → Int32} {d x : Nat} {M : qxM} {st : List Value} {ls : qxL} {t : Nat} {j : Int32} (hk : qx_kd t = 0) (hj : qx_ib j (qx_ln t) = true) : Rs L xs (d) 326 75 ls (.int j :: .ref t :: st) M x = Rs L xs (d) 326 76 ls (.int (M.1 t j.toNatClampNeg) :: st) M x := by
  have h1 := qx_kd_row (k := 0) (by decide) hk
  exact Rs_unless (qx_ib_not hj) c326_75 (by unfold qx_act; dsimp only; rw [h1]; rfl)
theorem c326_76 : qx_code 326 76 = some (76, .iconst 1, 77, 0, 0, 0) := by decide +kernel
theorem s326_76 {L : Nat} {xs : Nat → Int32} {d x : Nat} {M : qxM} {st : List Value} {ls : qxL} : Rs L xs (d) 326 76 ls st M x = Rs L xs (d) 326 77 ls (.int (nI 1) :: st) M x := Rs_next c326_76 rfl
theorem c326_77 : qx_code 326 77 = some (77, .iadd, 78, 0, 0, 0) := by decide +kernel
theorem s326_77 {L : Nat} {xs : Nat → Int32} {d x : Nat} {M : qxM} {st : List Value} {ls : qxL} {z y : Int32} : Rs L xs (d) 326 77 ls (.int y :: .int z :: st) M x = Rs L xs (d) 326 78 ls (.int (z + y) :: st) M x := Rs_next c326_77 rfl
theorem c326_78 : qx_code 326 78 = some (78, .iastore, 79, 0, 0, 0) := by decide +kernel
theorem s326_78 {L : Nat} {xs : Nat → Int32} {d x : Nat} {M : qxM} {st : List Value} {ls : qxL} {t : Nat} {j : Int32} {z : Int32} (hk : qx_kd t = 0) (hj : qx_ib j (qx_ln t) = true) : Rs L xs (d) 326 78 ls (.int z :: .int j :: .ref t :: st) M x = Rs L xs (d) 326 79 ls st (qx_up M t j.toNatClampNeg z) x := by
  have h1 := qx_kd_row (k := 0) (by decide) hk
  exact Rs_unless (qx_ib_not hj) c326_78 (by unfold qx_act; dsimp only; rw [h1]; rfl)
theorem c326_79 : qx_code 326 79 = some (79, .iload_n 3, 80, 0, 0, 0) := by decide +kernel
theorem s326_79 {L : Nat} {xs : Nat → Int32} {d x : Nat} {M : qxM} {st : List Value} {a0 a1 a2 : Option Value} {z : Int32} : Rs L xs (d) 326 79 [a0, a1, a2, some (.int z)] st M x = Rs L xs (d) 326 80 [a0, a1, a2, some (.int z)] (.int z :: st) M x := Rs_next c326_79 rfl
theorem c326_80 : qx_code 326 80 = some (80, .ireturn, 81, 0, 0, 0) := by decide +kernel
theorem s326_80 {L : Nat} {xs : Nat → Int32} {d x : Nat} {M : qxM} {ls : qxL} {z : Int32} : Rs L xs (d) 326 80 ls [.int z] M x = some (.inl (some (.int z)), M, x) := Rs_ret c326_80 rfl
theorem c327_0 : qx_code 327 0 = some (0, .aload_n 0, 1, 0, 0, 0) := by decide +kernel
theorem s327_0 {L : Nat} {xs : Nat → Int32} {d x : Nat} {M : qxM} {st : List Value} {a1 a2 a3 : Option Value} {z : Nat} : Rs L xs (d) 327 0 [some (.ref z), a1, a2, a3] st M x = Rs L xs (d) 327 1 [some (.ref z), a1, a2, a3] (.ref z :: st) M x := Rs_next c327_0 rfl
theorem c327_1 : qx_code 327 1 = some (1, .aload_n 0, 2, 0, 0, 0) := by decide +kernel
theorem s327_1 {L : Nat} {xs : Nat → Int32} {d x : Nat} {M : qxM} {st : List Value} {a1 a2 a3 : Option Value} {z : Nat} : Rs L xs (d) 327 1 [some (.ref z), a1, a2, a3] st M x = Rs L xs (d) 327 2 [some (.ref z), a1, a2, a3] (.ref z :: st) M x := Rs_next c327_1 rfl
theorem c327_2 : qx_code 327 2 = some (2, .getfield 187, 5, 8, 6, 1551) := by decide +kernel
theorem s327_2 {L : Nat} {xs : Nat → Int32} {d x : Nat} {M : qxM} {st : List Value} {ls : qxL} {t : Nat} (hk : qx_kd t = 18) : Rs L xs (d) 327 2 ls (.ref t :: st) M x = Rs L xs (d) 327 5 ls (.int (M.1 t 6) :: st) M x := Rs_when (qx_kd_obj (k := 8) (by decide) hk) c327_2 rfl
theorem c327_5 : qx_code 327 5 = some (5, .aload_n 0, 6, 0, 0, 0) := by decide +kernel
theorem s327_5 {L : Nat} {xs : Nat → Int32} {d x : Nat} {M : qxM} {st : List Value} {a1 a2 a3 : Option Value} {z : Nat} : Rs L xs (d) 327 5 [some (.ref z), a1, a2, a3] st M x = Rs L xs (d) 327 6 [some (.ref z), a1, a2, a3] (.ref z :: st) M x := Rs_next c327_5 rfl
theorem c327_6 : qx_code 327 6 = some (6, .iload_n 1, 7, 0, 0, 0) := by decide +kernel
theorem s327_6 {L : Nat} {xs : Nat → Int32} {d x : Nat} {M : qxM} {st : List Value} {a0 a2 a3 : Option Value} {z : Int32} : Rs L xs (d) 327 6 [a0, some (.int z), a2, a3] st M x = Rs L xs (d) 327 7 [a0, some (.int z), a2, a3] (.int z :: st) M x := Rs_next c327_6 rfl
theorem c327_7 : qx_code 327 7 = some (7, .invokevirtual 226, 10, 211, 2, 1803) := by decide +kernel
theorem s327_7 {L : Nat} {xs : Nat → Int32} {d x : Nat} {M : qxM} {st : List Value} {ls : qxL} {t : Nat} {z0 : Int32} (hk : qx_kd t = 18) (hs : st.length ≤ 4) : Rs L xs (d + 1) 327 7 ls (.int z0 :: .ref t :: st) M x = (Rs L xs d 211 0 [some (.ref t), some (.int z0)] [] M 0).bind (qx_kn L xs (d + 1) 327 7 10 211 ls st x) := by
  have h1 : qx_act L xs (qx_rt 327) (7, .invokevirtual 226, 10, 211, 2, 1803) ls (.int z0 :: .ref t :: st) M = if 2 ≤ (.int z0 :: .ref t :: st).length ∧ st.length ≤ 4 then some (.inr (.inr (.inr (211, [.ref t, .int z0], st)))) else none := rfl
  rw [if_pos ⟨by simp [List.length_cons]; try omega, hs⟩] at h1
  have h2 := qx_kd_obj (k := 8) (by decide) hk
  exact Rs_call c327_7 h1 (by rw [show qx_args 211 [.ref t, .int z0] = decide (qx_sh t = some (.inl 8)) from rfl]; exact decide_eq_true h2)
theorem c327_10 : qx_code 327 10 = some (10, .ifCond .eq 15, 13, 25, 0, 0) := by decide +kernel
theorem s327_10 {L : Nat} {xs : Nat → Int32} {d x : Nat} {M : qxM} {st : List Value} {ls : qxL} {z : Int32} : Rs L xs (d) 327 10 ls (.int z :: st) M x = if z = 0 then Rs L xs (d) 327 25 ls st M x else Rs L xs (d) 327 13 ls st M x := Rs_ite c327_10 rfl
theorem c327_13 : qx_code 327 13 = some (13, .aload_n 0, 14, 0, 0, 0) := by decide +kernel
theorem s327_13 {L : Nat} {xs : Nat → Int32} {d x : Nat} {M : qxM} {st : List Value} {a1 a2 a3 : Option Value} {z : Nat} : Rs L xs (d) 327 13 [some (.ref z), a1, a2, a3] st M x = Rs L xs (d) 327 14 [some (.ref z), a1, a2, a3] (.ref z :: st) M x := Rs_next c327_13 rfl
theorem c327_14 : qx_code 327 14 = some (14, .iload_n 2, 15, 0, 0, 0) := by decide +kernel
theorem s327_14 {L : Nat} {xs : Nat → Int32} {d x : Nat} {M : qxM} {st : List Value} {a0 a1 a3 : Option Value} {z : Int32} : Rs L xs (d) 327 14 [a0, a1, some (.int z), a3] st M x = Rs L xs (d) 327 15 [a0, a1, some (.int z), a3] (.int z :: st) M x := Rs_next c327_14 rfl
theorem c327_15 : qx_code 327 15 = some (15, .invokevirtual 226, 18, 211, 2, 1803) := by decide +kernel
theorem s327_15 {L : Nat} {xs : Nat → Int32} {d x : Nat} {M : qxM} {st : List Value} {ls : qxL} {t : Nat} {z0 : Int32} (hk : qx_kd t = 18) (hs : st.length ≤ 4) : Rs L xs (d + 1) 327 15 ls (.int z0 :: .ref t :: st) M x = (Rs L xs d 211 0 [some (.ref t), some (.int z0)] [] M 0).bind (qx_kn L xs (d + 1) 327 15 18 211 ls st x) := by
  have h1 : qx_act L xs (qx_rt 327) (15, .invokevirtual 226, 18, 211, 2, 1803) ls (.int z0 :: .ref t :: st) M = if 2 ≤ (.int z0 :: .ref t :: st).length ∧ st.length ≤ 4 then some (.inr (.inr (.inr (211, [.ref t, .int z0], st)))) else none := rfl
  rw [if_pos ⟨by simp [List.length_cons]; try omega, hs⟩] at h1
  have h2 := qx_kd_obj (k := 8) (by decide) hk
  exact Rs_call c327_15 h1 (by rw [show qx_args 211 [.ref t, .int z0] = decide (qx_sh t = some (.inl 8)) from rfl]; exact decide_eq_true h2)
theorem c327_18 : qx_code 327 18 = some (18, .ifCond .eq 7, 21, 25, 0, 0) := by decide +kernel
theorem s327_18 {L : Nat} {xs : Nat → Int32} {d x : Nat} {M : qxM} {st : List Value} {ls : qxL} {z : Int32} : Rs L xs (d) 327 18 ls (.int z :: st) M x = if z = 0 then Rs L xs (d) 327 25 ls st M x else Rs L xs (d) 327 21 ls st M x := Rs_ite c327_18 rfl
theorem c327_21 : qx_code 327 21 = some (21, .iconst 1, 22, 0, 0, 0) := by decide +kernel
theorem s327_21 {L : Nat} {xs : Nat → Int32} {d x : Nat} {M : qxM} {st : List Value} {ls : qxL} : Rs L xs (d) 327 21 ls st M x = Rs L xs (d) 327 22 ls (.int (nI 1) :: st) M x := Rs_next c327_21 rfl
theorem c327_22 : qx_code 327 22 = some (22, .goto 4, 25, 26, 0, 0) := by decide +kernel
theorem s327_22 {L : Nat} {xs : Nat → Int32} {d x : Nat} {M : qxM} {st : List Value} {ls : qxL} : Rs L xs (d) 327 22 ls st M x = Rs L xs (d) 327 26 ls st M x := Rs_next c327_22 rfl
theorem c327_25 : qx_code 327 25 = some (25, .iconst 0, 26, 0, 0, 0) := by decide +kernel
theorem s327_25 {L : Nat} {xs : Nat → Int32} {d x : Nat} {M : qxM} {st : List Value} {ls : qxL} : Rs L xs (d) 327 25 ls st M x = Rs L xs (d) 327 26 ls (.int (nI 0) :: st) M x := Rs_next c327_25 rfl
theorem c327_26 : qx_code 327 26 = some (26, .iload_n 1, 27, 0, 0, 0) := by decide +kernel
theorem s327_26 {L : Nat} {xs : Nat → Int32} {d x : Nat} {M : qxM} {st : List Value} {a0 a2 a3 : Option Value} {z : Int32} : Rs L xs (d) 327 26 [a0, some (.int z), a2, a3] st M x = Rs L xs (d) 327 27 [a0, some (.int z), a2, a3] (.int z :: st) M x := Rs_next c327_26 rfl
theorem c327_27 : qx_code 327 27 = some (27, .iload_n 2, 28, 0, 0, 0) := by decide +kernel
theorem s327_27 {L : Nat} {xs : Nat → Int32} {d x : Nat} {M : qxM} {st : List Value} {a0 a1 a3 : Option Value} {z : Int32} : Rs L xs (d) 327 27 [a0, a1, some (.int z), a3] st M x = Rs L xs (d) 327 28 [a0, a1, some (.int z), a3] (.int z :: st) M x := Rs_next c327_27 rfl
theorem c327_28 : qx_code 327 28 = some (28, .if_icmp .eq 7, 31, 35, 0, 0) := by decide +kernel
theorem s327_28 {L : Nat} {xs : Nat → Int32} {d x : Nat} {M : qxM} {st : List Value} {ls : qxL} {z y : Int32} : Rs L xs (d) 327 28 ls (.int y :: .int z :: st) M x = if z = y then Rs L xs (d) 327 35 ls st M x else Rs L xs (d) 327 31 ls st M x := Rs_ite c327_28 rfl
theorem c327_31 : qx_code 327 31 = some (31, .iconst 1, 32, 0, 0, 0) := by decide +kernel
theorem s327_31 {L : Nat} {xs : Nat → Int32} {d x : Nat} {M : qxM} {st : List Value} {ls : qxL} : Rs L xs (d) 327 31 ls st M x = Rs L xs (d) 327 32 ls (.int (nI 1) :: st) M x := Rs_next c327_31 rfl
theorem c327_32 : qx_code 327 32 = some (32, .goto 4, 35, 36, 0, 0) := by decide +kernel
theorem s327_32 {L : Nat} {xs : Nat → Int32} {d x : Nat} {M : qxM} {st : List Value} {ls : qxL} : Rs L xs (d) 327 32 ls st M x = Rs L xs (d) 327 36 ls st M x := Rs_next c327_32 rfl
theorem c327_35 : qx_code 327 35 = some (35, .iconst 0, 36, 0, 0, 0) := by decide +kernel
theorem s327_35 {L : Nat} {xs : Nat → Int32} {d x : Nat} {M : qxM} {st : List Value} {ls : qxL} : Rs L xs (d) 327 35 ls st M x = Rs L xs (d) 327 36 ls (.int (nI 0) :: st) M x := Rs_next c327_35 rfl
theorem c327_36 : qx_code 327 36 = some (36, .invokevirtual 49, 39, 180, 4, 1644) := by decide +kernel
theorem s327_36 {L : Nat} {xs : Nat → Int32} {d x : Nat} {M : qxM} {st : List Value} {ls : qxL} {t : Nat} {z0 : Int32} {z1 : Int32} {z2 : Int32} (hk : qx_kd t = 18) (hs : st.length ≤ 4) : Rs L xs (d + 1) 327 36 ls (.int z2 :: .int z1 :: .int z0 :: .ref t :: st) M x = (Rs L xs d 180 0 [some (.ref t), some (.int z0), some (.int z1), some (.int z2)] [] M 0).bind (qx_kn L xs (d + 1) 327 36 39 180 ls st x) := by
  have h1 : qx_act L xs (qx_rt 327) (36, .invokevirtual 49, 39, 180, 4, 1644) ls (.int z2 :: .int z1 :: .int z0 :: .ref t :: st) M = if 4 ≤ (.int z2 :: .int z1 :: .int z0 :: .ref t :: st).length ∧ st.length ≤ 4 then some (.inr (.inr (.inr (180, [.ref t, .int z0, .int z1, .int z2], st)))) else none := rfl
  rw [if_pos ⟨by simp [List.length_cons]; try omega, hs⟩] at h1
  have h2 := qx_kd_obj (k := 8) (by decide) hk
  exact Rs_call c327_36 h1 (by rw [show qx_args 180 [.ref t, .int z0, .int z1, .int z2] = decide (qx_sh t = some (.inl 8)) from rfl]; exact decide_eq_true h2)
theorem c327_39 : qx_code 327 39 = some (39, .ifCond .ne 5, 42, 44, 0, 0) := by decide +kernel
theorem s327_39 {L : Nat} {xs : Nat → Int32} {d x : Nat} {M : qxM} {st : List Value} {ls : qxL} {z : Int32} : Rs L xs (d) 327 39 ls (.int z :: st) M x = if z = 0 then Rs L xs (d) 327 42 ls st M x else Rs L xs (d) 327 44 ls st M x := Rs_ite c327_39 rfl
theorem c327_42 : qx_code 327 42 = some (42, .iconst 0, 43, 0, 0, 0) := by decide +kernel
theorem s327_42 {L : Nat} {xs : Nat → Int32} {d x : Nat} {M : qxM} {st : List Value} {ls : qxL} : Rs L xs (d) 327 42 ls st M x = Rs L xs (d) 327 43 ls (.int (nI 0) :: st) M x := Rs_next c327_42 rfl
theorem c327_43 : qx_code 327 43 = some (43, .ireturn, 44, 0, 0, 0) := by decide +kernel
theorem s327_43 {L : Nat} {xs : Nat → Int32} {d x : Nat} {M : qxM} {ls : qxL} {z : Int32} : Rs L xs (d) 327 43 ls [.int z] M x = some (.inl (some (.int z)), M, x) := Rs_ret c327_43 rfl
theorem c327_44 : qx_code 327 44 = some (44, .aload_n 0, 45, 0, 0, 0) := by decide +kernel
theorem s327_44 {L : Nat} {xs : Nat → Int32} {d x : Nat} {M : qxM} {st : List Value} {a1 a2 a3 : Option Value} {z : Nat} : Rs L xs (d) 327 44 [some (.ref z), a1, a2, a3] st M x = Rs L xs (d) 327 45 [some (.ref z), a1, a2, a3] (.ref z :: st) M x := Rs_next c327_44 rfl
theorem c327_45 : qx_code 327 45 = some (45, .invokevirtual 387, 48, 319, 1, 2201) := by decide +kernel
theorem s327_45 {L : Nat} {xs : Nat → Int32} {d x : Nat} {M : qxM} {st : List Value} {ls : qxL} {t : Nat} (hk : qx_kd t = 18) (hs : st.length ≤ 4) : Rs L xs (d + 1) 327 45 ls (.ref t :: st) M x = (Rs L xs d 319 0 [some (.ref t)] [] M 0).bind (qx_kn L xs (d + 1) 327 45 48 319 ls st x) := by
  have h1 : qx_act L xs (qx_rt 327) (45, .invokevirtual 387, 48, 319, 1, 2201) ls (.ref t :: st) M = if 1 ≤ (.ref t :: st).length ∧ st.length ≤ 4 then some (.inr (.inr (.inr (319, [.ref t], st)))) else none := rfl
  rw [if_pos ⟨by simp [List.length_cons]; try omega, hs⟩] at h1
  have h2 := qx_kd_obj (k := 8) (by decide) hk
  exact Rs_call c327_45 h1 (by rw [show qx_args 319 [.ref t] = decide (qx_sh t = some (.inl 8)) from rfl]; exact decide_eq_true h2)
theorem c327_48 : qx_code 327 48 = some (48, .aload_n 0, 49, 0, 0, 0) := by decide +kernel
theorem s327_48 {L : Nat} {xs : Nat → Int32} {d x : Nat} {M : qxM} {st : List Value} {a1 a2 a3 : Option Value} {z : Nat} : Rs L xs (d) 327 48 [some (.ref z), a1, a2, a3] st M x = Rs L xs (d) 327 49 [some (.ref z), a1, a2, a3] (.ref z :: st) M x := Rs_next c327_48 rfl
theorem c327_49 : qx_code 327 49 = some (49, .iload_n 1, 50, 0, 0, 0) := by decide +kernel
theorem s327_49 {L : Nat} {xs : Nat → Int32} {d x : Nat} {M : qxM} {st : List Value} {a0 a2 a3 : Option Value} {z : Int32} : Rs L xs (d) 327 49 [a0, some (.int z), a2, a3] st M x = Rs L xs (d) 327 50 [a0, some (.int z), a2, a3] (.int z :: st) M x := Rs_next c327_49 rfl
theorem c327_50 : qx_code 327 50 = some (50, .iload_n 2, 51, 0, 0, 0) := by decide +kernel
theorem s327_50 {L : Nat} {xs : Nat → Int32} {d x : Nat} {M : qxM} {st : List Value} {a0 a1 a3 : Option Value} {z : Int32} : Rs L xs (d) 327 50 [a0, a1, some (.int z), a3] st M x = Rs L xs (d) 327 51 [a0, a1, some (.int z), a3] (.int z :: st) M x := Rs_next c327_50 rfl
theorem c327_51 : qx_code 327 51 = some (51, .iload_n 3, 52, 0, 0, 0) := by decide +kernel
theorem s327_51 {L : Nat} {xs : Nat → Int32} {d x : Nat} {M : qxM} {st : List Value} {a0 a1 a2 : Option Value} {z : Int32} : Rs L xs (d) 327 51 [a0, a1, a2, some (.int z)] st M x = Rs L xs (d) 327 52 [a0, a1, a2, some (.int z)] (.int z :: st) M x := Rs_next c327_51 rfl
theorem c327_52 : qx_code 327 52 = some (52, .invokevirtual 121, 55, 217, 4, 1720) := by decide +kernel
theorem s327_52 {L : Nat} {xs : Nat → Int32} {d x : Nat} {M : qxM} {st : List Value} {ls : qxL} {t : Nat} {z0 : Int32} {z1 : Int32} {z2 : Int32} (hk : qx_kd t = 18) (hs : st.length ≤ 4) : Rs L xs (d + 1) 327 52 ls (.int z2 :: .int z1 :: .int z0 :: .ref t :: st) M x = (Rs L xs d 217 0 [some (.ref t), some (.int z0), some (.int z1), some (.int z2)] [] M 0).bind (qx_kn L xs (d + 1) 327 52 55 217 ls st x) := by
  have h1 : qx_act L xs (qx_rt 327) (52, .invokevirtual 121, 55, 217, 4, 1720) ls (.int z2 :: .int z1 :: .int z0 :: .ref t :: st) M = if 4 ≤ (.int z2 :: .int z1 :: .int z0 :: .ref t :: st).length ∧ st.length ≤ 4 then some (.inr (.inr (.inr (217, [.ref t, .int z0, .int z1, .int z2], st)))) else none := rfl
  rw [if_pos ⟨by simp [List.length_cons]; try omega, hs⟩] at h1
  have h2 := qx_kd_obj (k := 8) (by decide) hk
  exact Rs_call c327_52 h1 (by rw [show qx_args 217 [.ref t, .int z0, .int z1, .int z2] = decide (qx_sh t = some (.inl 8)) from rfl]; exact decide_eq_true h2)
theorem c327_55 : qx_code 327 55 = some (55, .aload_n 0, 56, 0, 0, 0) := by decide +kernel
theorem s327_55 {L : Nat} {xs : Nat → Int32} {d x : Nat} {M : qxM} {st : List Value} {a1 a2 a3 : Option Value} {z : Nat} : Rs L xs (d) 327 55 [some (.ref z), a1, a2, a3] st M x = Rs L xs (d) 327 56 [some (.ref z), a1, a2, a3] (.ref z :: st) M x := Rs_next c327_55 rfl
theorem c327_56 : qx_code 327 56 = some (56, .getfield 9, 59, 8, 1, 1546) := by decide +kernel
theorem s327_56 {L : Nat} {xs : Nat → Int32} {d x : Nat} {M : qxM} {st : List Value} {ls : qxL} {t : Nat} (hk : qx_kd t = 18) : Rs L xs (d) 327 56 ls (.ref t :: st) M x = Rs L xs (d) 327 59 ls (.ref (t + 1) :: st) M x := Rs_when (qx_kd_obj (k := 8) (by decide) hk) c327_56 rfl
theorem c327_59 : qx_code 327 59 = some (59, .bipush 6, 61, 0, 0, 0) := by decide +kernel
theorem s327_59 {L : Nat} {xs : Nat → Int32} {d x : Nat} {M : qxM} {st : List Value} {ls : qxL} : Rs L xs (d) 327 59 ls st M x = Rs L xs (d) 327 61 ls (.int (nI 6) :: st) M x := Rs_next c327_59 rfl
theorem c327_61 : qx_code 327 61 = some (61, .dup2, 62, 0, 0, 0) := by decide +kernel
theorem s327_61 {L : Nat} {xs : Nat → Int32} {d x : Nat} {M : qxM} {st : List Value} {ls : qxL} {z : Nat} {y : Int32} : Rs L xs (d) 327 61 ls (.int y :: .ref z :: st) M x = Rs L xs (d) 327 62 ls (.int y :: .ref z :: .int y :: .ref z :: st) M x := Rs_next c327_61 rfl
theorem c327_62 : qx_code 327 62 = some (62, .iaload, 63, 0, 0, 0) := by decide +kernel
theorem s327_62 {L : Nat} {xs : Nat → Int32} {d x : Nat} {M : qxM} {st : List Value} {ls : qxL} {t : Nat} {j : Int32} (hk : qx_kd t = 0) (hj : qx_ib j (qx_ln t) = true) : Rs L xs (d) 327 62 ls (.int j :: .ref t :: st) M x = Rs L xs (d) 327 63 ls (.int (M.1 t j.toNatClampNeg) :: st) M x := by
  have h1 := qx_kd_row (k := 0) (by decide) hk
  exact Rs_unless (qx_ib_not hj) c327_62 (by unfold qx_act; dsimp only; rw [h1]; rfl)
theorem c327_63 : qx_code 327 63 = some (63, .aload_n 0, 64, 0, 0, 0) := by decide +kernel
theorem s327_63 {L : Nat} {xs : Nat → Int32} {d x : Nat} {M : qxM} {st : List Value} {a1 a2 a3 : Option Value} {z : Nat} : Rs L xs (d) 327 63 [some (.ref z), a1, a2, a3] st M x = Rs L xs (d) 327 64 [some (.ref z), a1, a2, a3] (.ref z :: st) M x := Rs_next c327_63 rfl
theorem c327_64 : qx_code 327 64 = some (64, .invokevirtual 175, 67, 221, 1, 1757) := by decide +kernel
theorem s327_64 {L : Nat} {xs : Nat → Int32} {d x : Nat} {M : qxM} {st : List Value} {ls : qxL} {t : Nat} (hk : qx_kd t = 18) (hs : st.length ≤ 4) : Rs L xs (d + 1) 327 64 ls (.ref t :: st) M x = (Rs L xs d 221 0 [some (.ref t), none, none] [] M 0).bind (qx_kn L xs (d + 1) 327 64 67 221 ls st x) := by
  have h1 : qx_act L xs (qx_rt 327) (64, .invokevirtual 175, 67, 221, 1, 1757) ls (.ref t :: st) M = if 1 ≤ (.ref t :: st).length ∧ st.length ≤ 4 then some (.inr (.inr (.inr (221, [.ref t], st)))) else none := rfl
  rw [if_pos ⟨by simp [List.length_cons]; try omega, hs⟩] at h1
  have h2 := qx_kd_obj (k := 8) (by decide) hk
  exact Rs_call c327_64 h1 (by rw [show qx_args 221 [.ref t] = decide (qx_sh t = some (.inl 8)) from rfl]; exact decide_eq_true h2)
theorem c327_67 : qx_code 327 67 = some (67, .iadd, 68, 0, 0, 0) := by decide +kernel
theorem s327_67 {L : Nat} {xs : Nat → Int32} {d x : Nat} {M : qxM} {st : List Value} {ls : qxL} {z y : Int32} : Rs L xs (d) 327 67 ls (.int y :: .int z :: st) M x = Rs L xs (d) 327 68 ls (.int (z + y) :: st) M x := Rs_next c327_67 rfl
theorem c327_68 : qx_code 327 68 = some (68, .iastore, 69, 0, 0, 0) := by decide +kernel
theorem s327_68 {L : Nat} {xs : Nat → Int32} {d x : Nat} {M : qxM} {st : List Value} {ls : qxL} {t : Nat} {j : Int32} {z : Int32} (hk : qx_kd t = 0) (hj : qx_ib j (qx_ln t) = true) : Rs L xs (d) 327 68 ls (.int z :: .int j :: .ref t :: st) M x = Rs L xs (d) 327 69 ls st (qx_up M t j.toNatClampNeg z) x := by
  have h1 := qx_kd_row (k := 0) (by decide) hk
  exact Rs_unless (qx_ib_not hj) c327_68 (by unfold qx_act; dsimp only; rw [h1]; rfl)
theorem c327_69 : qx_code 327 69 = some (69, .aload_n 0, 70, 0, 0, 0) := by decide +kernel
theorem s327_69 {L : Nat} {xs : Nat → Int32} {d x : Nat} {M : qxM} {st : List Value} {a1 a2 a3 : Option Value} {z : Nat} : Rs L xs (d) 327 69 [some (.ref z), a1, a2, a3] st M x = Rs L xs (d) 327 70 [some (.ref z), a1, a2, a3] (.ref z :: st) M x := Rs_next c327_69 rfl
theorem c327_70 : qx_code 327 70 = some (70, .iconst 0, 71, 0, 0, 0) := by decide +kernel
theorem s327_70 {L : Nat} {xs : Nat → Int32} {d x : Nat} {M : qxM} {st : List Value} {ls : qxL} : Rs L xs (d) 327 70 ls st M x = Rs L xs (d) 327 71 ls (.int (nI 0) :: st) M x := Rs_next c327_70 rfl
theorem c327_71 : qx_code 327 71 = some (71, .invokevirtual 220, 74, 222, 2, 1777) := by decide +kernel
theorem s327_71 {L : Nat} {xs : Nat → Int32} {d x : Nat} {M : qxM} {st : List Value} {ls : qxL} {t : Nat} {z0 : Int32} (hk : qx_kd t = 18) (hs : st.length ≤ 4) : Rs L xs (d + 1) 327 71 ls (.int z0 :: .ref t :: st) M x = (Rs L xs d 222 0 [some (.ref t), some (.int z0), none, none] [] M 0).bind (qx_kn L xs (d + 1) 327 71 74 222 ls st x) := by
  have h1 : qx_act L xs (qx_rt 327) (71, .invokevirtual 220, 74, 222, 2, 1777) ls (.int z0 :: .ref t :: st) M = if 2 ≤ (.int z0 :: .ref t :: st).length ∧ st.length ≤ 4 then some (.inr (.inr (.inr (222, [.ref t, .int z0], st)))) else none := rfl
  rw [if_pos ⟨by simp [List.length_cons]; try omega, hs⟩] at h1
  have h2 := qx_kd_obj (k := 8) (by decide) hk
  exact Rs_call c327_71 h1 (by rw [show qx_args 222 [.ref t, .int z0] = decide (qx_sh t = some (.inl 8)) from rfl]; exact decide_eq_true h2)
theorem c327_74 : qx_code 327 74 = some (74, .ireturn, 75, 0, 0, 0) := by decide +kernel
theorem s327_74 {L : Nat} {xs : Nat → Int32} {d x : Nat} {M : qxM} {ls : qxL} {z : Int32} : Rs L xs (d) 327 74 ls [.int z] M x = some (.inl (some (.int z)), M, x) := Rs_ret c327_74 rfl
theorem c328_0 : qx_code 328 0 = some (0, .aload_n 0, 1, 0, 0, 0) := by decide +kernel
theorem s328_0 {L : Nat} {xs : Nat → Int32} {d x : Nat} {M : qxM} {st : List Value} {a1 a2 a3 : Option Value} {z : Nat} : Rs L xs (d) 328 0 [some (.ref z), a1, a2, a3] st M x = Rs L xs (d) 328 1 [some (.ref z), a1, a2, a3] (.ref z :: st) M x := Rs_next c328_0 rfl
theorem c328_1 : qx_code 328 1 = some (1, .aload_n 0, 2, 0, 0, 0) := by decide +kernel
theorem s328_1 {L : Nat} {xs : Nat → Int32} {d x : Nat} {M : qxM} {st : List Value} {a1 a2 a3 : Option Value} {z : Nat} : Rs L xs (d) 328 1 [some (.ref z), a1, a2, a3] st M x = Rs L xs (d) 328 2 [some (.ref z), a1, a2, a3] (.ref z :: st) M x := Rs_next c328_1 rfl
theorem c328_2 : qx_code 328 2 = some (2, .getfield 187, 5, 8, 6, 1551) := by decide +kernel
theorem s328_2 {L : Nat} {xs : Nat → Int32} {d x : Nat} {M : qxM} {st : List Value} {ls : qxL} {t : Nat} (hk : qx_kd t = 18) : Rs L xs (d) 328 2 ls (.ref t :: st) M x = Rs L xs (d) 328 5 ls (.int (M.1 t 6) :: st) M x := Rs_when (qx_kd_obj (k := 8) (by decide) hk) c328_2 rfl
theorem c328_5 : qx_code 328 5 = some (5, .aload_n 0, 6, 0, 0, 0) := by decide +kernel
theorem s328_5 {L : Nat} {xs : Nat → Int32} {d x : Nat} {M : qxM} {st : List Value} {a1 a2 a3 : Option Value} {z : Nat} : Rs L xs (d) 328 5 [some (.ref z), a1, a2, a3] st M x = Rs L xs (d) 328 6 [some (.ref z), a1, a2, a3] (.ref z :: st) M x := Rs_next c328_5 rfl
theorem c328_6 : qx_code 328 6 = some (6, .iload_n 1, 7, 0, 0, 0) := by decide +kernel
theorem s328_6 {L : Nat} {xs : Nat → Int32} {d x : Nat} {M : qxM} {st : List Value} {a0 a2 a3 : Option Value} {z : Int32} : Rs L xs (d) 328 6 [a0, some (.int z), a2, a3] st M x = Rs L xs (d) 328 7 [a0, some (.int z), a2, a3] (.int z :: st) M x := Rs_next c328_6 rfl
theorem c328_7 : qx_code 328 7 = some (7, .invokevirtual 226, 10, 211, 2, 1803) := by decide +kernel
theorem s328_7 {L : Nat} {xs : Nat → Int32} {d x : Nat} {M : qxM} {st : List Value} {ls : qxL} {t : Nat} {z0 : Int32} (hk : qx_kd t = 18) (hs : st.length ≤ 4) : Rs L xs (d + 1) 328 7 ls (.int z0 :: .ref t :: st) M x = (Rs L xs d 211 0 [some (.ref t), some (.int z0)] [] M 0).bind (qx_kn L xs (d + 1) 328 7 10 211 ls st x) := by
  have h1 : qx_act L xs (qx_rt 328) (7, .invokevirtual 226, 10, 211, 2, 1803) ls (.int z0 :: .ref t :: st) M = if 2 ≤ (.int z0 :: .ref t :: st).length ∧ st.length ≤ 4 then some (.inr (.inr (.inr (211, [.ref t, .int z0], st)))) else none := rfl
  rw [if_pos ⟨by simp [List.length_cons]; try omega, hs⟩] at h1
  have h2 := qx_kd_obj (k := 8) (by decide) hk
  exact Rs_call c328_7 h1 (by rw [show qx_args 211 [.ref t, .int z0] = decide (qx_sh t = some (.inl 8)) from rfl]; exact decide_eq_true h2)
theorem c328_10 : qx_code 328 10 = some (10, .iload_n 2, 11, 0, 0, 0) := by decide +kernel
theorem s328_10 {L : Nat} {xs : Nat → Int32} {d x : Nat} {M : qxM} {st : List Value} {a0 a1 a3 : Option Value} {z : Int32} : Rs L xs (d) 328 10 [a0, a1, some (.int z), a3] st M x = Rs L xs (d) 328 11 [a0, a1, some (.int z), a3] (.int z :: st) M x := Rs_next c328_10 rfl
theorem c328_11 : qx_code 328 11 = some (11, .iconst 0, 12, 0, 0, 0) := by decide +kernel
theorem s328_11 {L : Nat} {xs : Nat → Int32} {d x : Nat} {M : qxM} {st : List Value} {ls : qxL} : Rs L xs (d) 328 11 ls st M x = Rs L xs (d) 328 12 ls (.int (nI 0) :: st) M x := Rs_next c328_11 rfl
theorem c328_12 : qx_code 328 12 = some (12, .iconst 1, 13, 0, 0, 0) := by decide +kernel
theorem s328_12 {L : Nat} {xs : Nat → Int32} {d x : Nat} {M : qxM} {st : List Value} {ls : qxL} : Rs L xs (d) 328 12 ls st M x = Rs L xs (d) 328 13 ls (.int (nI 1) :: st) M x := Rs_next c328_12 rfl
theorem c328_13 : qx_code 328 13 = some (13, .invokestatic 69, 16, 178, 3, 1641) := by decide +kernel
theorem s328_13 {L : Nat} {xs : Nat → Int32} {d x : Nat} {M : qxM} {st : List Value} {ls : qxL} {z0 : Int32} {z1 : Int32} {z2 : Int32} (hs : st.length ≤ 4) : Rs L xs (d + 1) 328 13 ls (.int z2 :: .int z1 :: .int z0 :: st) M x = (Rs L xs d 178 0 [some (.int z0), some (.int z1), some (.int z2)] [] M 0).bind (qx_kn L xs (d + 1) 328 13 16 178 ls st x) := by
  have h1 : qx_act L xs (qx_rt 328) (13, .invokestatic 69, 16, 178, 3, 1641) ls (.int z2 :: .int z1 :: .int z0 :: st) M = if 3 ≤ (.int z2 :: .int z1 :: .int z0 :: st).length ∧ st.length ≤ 4 then some (.inr (.inr (.inr (178, [.int z0, .int z1, .int z2], st)))) else none := rfl
  rw [if_pos ⟨by simp [List.length_cons]; try omega, hs⟩] at h1
  exact Rs_call c328_13 h1 rfl
theorem c328_16 : qx_code 328 16 = some (16, .invokevirtual 49, 19, 180, 4, 1644) := by decide +kernel
theorem s328_16 {L : Nat} {xs : Nat → Int32} {d x : Nat} {M : qxM} {st : List Value} {ls : qxL} {t : Nat} {z0 : Int32} {z1 : Int32} {z2 : Int32} (hk : qx_kd t = 18) (hs : st.length ≤ 4) : Rs L xs (d + 1) 328 16 ls (.int z2 :: .int z1 :: .int z0 :: .ref t :: st) M x = (Rs L xs d 180 0 [some (.ref t), some (.int z0), some (.int z1), some (.int z2)] [] M 0).bind (qx_kn L xs (d + 1) 328 16 19 180 ls st x) := by
  have h1 : qx_act L xs (qx_rt 328) (16, .invokevirtual 49, 19, 180, 4, 1644) ls (.int z2 :: .int z1 :: .int z0 :: .ref t :: st) M = if 4 ≤ (.int z2 :: .int z1 :: .int z0 :: .ref t :: st).length ∧ st.length ≤ 4 then some (.inr (.inr (.inr (180, [.ref t, .int z0, .int z1, .int z2], st)))) else none := rfl
  rw [if_pos ⟨by simp [List.length_cons]; try omega, hs⟩] at h1
  have h2 := qx_kd_obj (k := 8) (by decide) hk
  exact Rs_call c328_16 h1 (by rw [show qx_args 180 [.ref t, .int z0, .int z1, .int z2] = decide (qx_sh t = some (.inl 8)) from rfl]; exact decide_eq_true h2)
theorem c328_19 : qx_code 328 19 = some (19, .ifCond .ne 5, 22, 24, 0, 0) := by decide +kernel
theorem s328_19 {L : Nat} {xs : Nat → Int32} {d x : Nat} {M : qxM} {st : List Value} {ls : qxL} {z : Int32} : Rs L xs (d) 328 19 ls (.int z :: st) M x = if z = 0 then Rs L xs (d) 328 22 ls st M x else Rs L xs (d) 328 24 ls st M x := Rs_ite c328_19 rfl
theorem c328_22 : qx_code 328 22 = some (22, .iconst 0, 23, 0, 0, 0) := by decide +kernel
theorem s328_22 {L : Nat} {xs : Nat → Int32} {d x : Nat} {M : qxM} {st : List Value} {ls : qxL} : Rs L xs (d) 328 22 ls st M x = Rs L xs (d) 328 23 ls (.int (nI 0) :: st) M x := Rs_next c328_22 rfl
theorem c328_23 : qx_code 328 23 = some (23, .ireturn, 24, 0, 0, 0) := by decide +kernel
theorem s328_23 {L : Nat} {xs : Nat → Int32} {d x : Nat} {M : qxM} {ls : qxL} {z : Int32} : Rs L xs (d) 328 23 ls [.int z] M x = some (.inl (some (.int z)), M, x) := Rs_ret c328_23 rfl
theorem c328_24 : qx_code 328 24 = some (24, .aload_n 0, 25, 0, 0, 0) := by decide +kernel
theorem s328_24 {L : Nat} {xs : Nat → Int32} {d x : Nat} {M : qxM} {st : List Value} {a1 a2 a3 : Option Value} {z : Nat} : Rs L xs (d) 328 24 [some (.ref z), a1, a2, a3] st M x = Rs L xs (d) 328 25 [some (.ref z), a1, a2, a3] (.ref z :: st) M x := Rs_next c328_24 rfl
theorem c328_25 : qx_code 328 25 = some (25, .invokevirtual 387, 28, 319, 1, 2201) := by decide +kernel
theorem s328_25 {L : Nat} {xs : Nat → Int32} {d x : Nat} {M : qxM} {st : List Value} {ls : qxL} {t : Nat} (hk : qx_kd t = 18) (hs : st.length ≤ 4) : Rs L xs (d + 1) 328 25 ls (.ref t :: st) M x = (Rs L xs d 319 0 [some (.ref t)] [] M 0).bind (qx_kn L xs (d + 1) 328 25 28 319 ls st x) := by
  have h1 : qx_act L xs (qx_rt 328) (25, .invokevirtual 387, 28, 319, 1, 2201) ls (.ref t :: st) M = if 1 ≤ (.ref t :: st).length ∧ st.length ≤ 4 then some (.inr (.inr (.inr (319, [.ref t], st)))) else none := rfl
  rw [if_pos ⟨by simp [List.length_cons]; try omega, hs⟩] at h1
  have h2 := qx_kd_obj (k := 8) (by decide) hk
  exact Rs_call c328_25 h1 (by rw [show qx_args 319 [.ref t] = decide (qx_sh t = some (.inl 8)) from rfl]; exact decide_eq_true h2)
theorem c328_28 : qx_code 328 28 = some (28, .aload_n 0, 29, 0, 0, 0) := by decide +kernel
theorem s328_28 {L : Nat} {xs : Nat → Int32} {d x : Nat} {M : qxM} {st : List Value} {a1 a2 a3 : Option Value} {z : Nat} : Rs L xs (d) 328 28 [some (.ref z), a1, a2, a3] st M x = Rs L xs (d) 328 29 [some (.ref z), a1, a2, a3] (.ref z :: st) M x := Rs_next c328_28 rfl
theorem c328_29 : qx_code 328 29 = some (29, .getfield 9, 32, 8, 1, 1546) := by decide +kernel
theorem s328_29 {L : Nat} {xs : Nat → Int32} {d x : Nat} {M : qxM} {st : List Value} {ls : qxL} {t : Nat} (hk : qx_kd t = 18) : Rs L xs (d) 328 29 ls (.ref t :: st) M x = Rs L xs (d) 328 32 ls (.ref (t + 1) :: st) M x := Rs_when (qx_kd_obj (k := 8) (by decide) hk) c328_29 rfl
theorem c328_32 : qx_code 328 32 = some (32, .iconst 2, 33, 0, 0, 0) := by decide +kernel
theorem s328_32 {L : Nat} {xs : Nat → Int32} {d x : Nat} {M : qxM} {st : List Value} {ls : qxL} : Rs L xs (d) 328 32 ls st M x = Rs L xs (d) 328 33 ls (.int (nI 2) :: st) M x := Rs_next c328_32 rfl
theorem c328_33 : qx_code 328 33 = some (33, .iaload, 34, 0, 0, 0) := by decide +kernel
theorem s328_33 {L : Nat} {xs : Nat → Int32} {d x : Nat} {M : qxM} {st : List Value} {ls : qxL} {t : Nat} {j : Int32} (hk : qx_kd t = 0) (hj : qx_ib j (qx_ln t) = true) : Rs L xs (d) 328 33 ls (.int j :: .ref t :: st) M x = Rs L xs (d) 328 34 ls (.int (M.1 t j.toNatClampNeg) :: st) M x := by
  have h1 := qx_kd_row (k := 0) (by decide) hk
  exact Rs_unless (qx_ib_not hj) c328_33 (by unfold qx_act; dsimp only; rw [h1]; rfl)
theorem c328_34 : qx_code 328 34 = some (34, .iload_n 1, 35, 0, 0, 0) := by decide +kernel
theorem s328_34 {L : Nat} {xs : Nat → Int32} {d x : Nat} {M : qxM} {st : List Value} {a0 a2 a3 : Option Value} {z : Int32} : Rs L xs (d) 328 34 [a0, some (.int z), a2, a3] st M x = Rs L xs (d) 328 35 [a0, some (.int z), a2, a3] (.int z :: st) M x := Rs_next c328_34 rfl
theorem c328_35 : qx_code 328 35 = some (35, .invokestatic 128, 38, 208, 2, 1729) := by decide +kernel
theorem s328_35 {L : Nat} {xs : Nat → Int32} {d x : Nat} {M : qxM} {st : List Value} {ls : qxL} {z0 : Int32} {z1 : Int32} (hs : st.length ≤ 4) : Rs L xs (d + 1) 328 35 ls (.int z1 :: .int z0 :: st) M x = (Rs L xs d 208 0 [some (.int z0), some (.int z1)] [] M 0).bind (qx_kn L xs (d + 1) 328 35 38 208 ls st x) := by
  have h1 : qx_act L xs (qx_rt 328) (35, .invokestatic 128, 38, 208, 2, 1729) ls (.int z1 :: .int z0 :: st) M = if 2 ≤ (.int z1 :: .int z0 :: st).length ∧ st.length ≤ 4 then some (.inr (.inr (.inr (208, [.int z0, .int z1], st)))) else none := rfl
  rw [if_pos ⟨by simp [List.length_cons]; try omega, hs⟩] at h1
  exact Rs_call c328_35 h1 rfl
theorem c328_38 : qx_code 328 38 = some (38, .invokestatic 203, 41, 179, 1, 1785) := by decide +kernel
theorem s328_38 {L : Nat} {xs : Nat → Int32} {d x : Nat} {M : qxM} {st : List Value} {ls : qxL} {z0 : Int32} (hs : st.length ≤ 4) : Rs L xs (d + 1) 328 38 ls (.int z0 :: st) M x = (Rs L xs d 179 0 [some (.int z0)] [] M 0).bind (qx_kn L xs (d + 1) 328 38 41 179 ls st x) := by
  have h1 : qx_act L xs (qx_rt 328) (38, .invokestatic 203, 41, 179, 1, 1785) ls (.int z0 :: st) M = if 1 ≤ (.int z0 :: st).length ∧ st.length ≤ 4 then some (.inr (.inr (.inr (179, [.int z0], st)))) else none := rfl
  rw [if_pos ⟨by simp [List.length_cons]; try omega, hs⟩] at h1
  exact Rs_call c328_38 h1 rfl
theorem c328_41 : qx_code 328 41 = some (41, .istore_n 3, 42, 0, 0, 0) := by decide +kernel
theorem s328_41i {L : Nat} {xs : Nat → Int32} {d x : Nat} {M : qxM} {st : List Value} {a0 a1 a3 : Option Value} {z : Int32} {y : Int32} : Rs L xs (d) 328 41 [a0, a1, some (.int y), a3] (.int z :: st) M x = Rs L xs (d) 328 42 [a0, a1, some (.int y), some (.int z)] st M x := Rs_next c328_41 rfl
theorem s328_41r {L : Nat} {xs : Nat → Int32} {d x : Nat} {M : qxM} {st : List Value} {a0 a1 a3 : Option Value} {z : Int32} {y : Nat} : Rs L xs (d) 328 41 [a0, a1, some (.ref y), a3] (.int z :: st) M x = Rs L xs (d) 328 42 [a0, a1, some (.ref y), some (.int z)] st M x := Rs_next c328_41 rfl
theorem s328_41n {L : Nat} {xs : Nat → Int32} {d x : Nat} {M : qxM} {st : List Value} {a0 a1 a3 : Option Value} {z : Int32} : Rs L xs (d) 328 41 [a0, a1, none, a3] (.int z :: st) M x = Rs L xs (d) 328 42 [a0, a1, none, some (.int z)] st M x := Rs_next c328_41 rfl
theorem c328_42 : qx_code 328 42 = some (42, .aload_n 0, 43, 0, 0, 0) := by decide +kernel
theorem s328_42 {L : Nat} {xs : Nat → Int32} {d x : Nat} {M : qxM} {st : List Value} {a1 a2 a3 : Option Value} {z : Nat} : Rs L xs (d) 328 42 [some (.ref z), a1, a2, a3] st M x = Rs L xs (d) 328 43 [some (.ref z), a1, a2, a3] (.ref z :: st) M x := Rs_next c328_42 rfl
theorem c328_43 : qx_code 328 43 = some (43, .getfield 9, 46, 8, 1, 1546) := by decide +kernel
theorem s328_43 {L : Nat} {xs : Nat → Int32} {d x : Nat} {M : qxM} {st : List Value} {ls : qxL} {t : Nat} (hk : qx_kd t = 18) : Rs L xs (d) 328 43 ls (.ref t :: st) M x = Rs L xs (d) 328 46 ls (.ref (t + 1) :: st) M x := Rs_when (qx_kd_obj (k := 8) (by decide) hk) c328_43 rfl
theorem c328_46 : qx_code 328 46 = some (46, .iconst 2, 47, 0, 0, 0) := by decide +kernel
theorem s328_46 {L : Nat} {xs : Nat → Int32} {d x : Nat} {M : qxM} {st : List Value} {ls : qxL} : Rs L xs (d) 328 46 ls st M x = Rs L xs (d) 328 47 ls (.int (nI 2) :: st) M x := Rs_next c328_46 rfl
theorem c328_47 : qx_code 328 47 = some (47, .iload_n 2, 48, 0, 0, 0) := by decide +kernel
theorem s328_47 {L : Nat} {xs : Nat → Int32} {d x : Nat} {M : qxM} {st : List Value} {a0 a1 a3 : Option Value} {z : Int32} : Rs L xs (d) 328 47 [a0, a1, some (.int z), a3] st M x = Rs L xs (d) 328 48 [a0, a1, some (.int z), a3] (.int z :: st) M x := Rs_next c328_47 rfl
theorem c328_48 : qx_code 328 48 = some (48, .iconst 1, 49, 0, 0, 0) := by decide +kernel
theorem s328_48 {L : Nat} {xs : Nat → Int32} {d x : Nat} {M : qxM} {st : List Value} {ls : qxL} : Rs L xs (d) 328 48 ls st M x = Rs L xs (d) 328 49 ls (.int (nI 1) :: st) M x := Rs_next c328_48 rfl
theorem c328_49 : qx_code 328 49 = some (49, .if_icmp .ne 16, 52, 65, 0, 0) := by decide +kernel
theorem s328_49 {L : Nat} {xs : Nat → Int32} {d x : Nat} {M : qxM} {st : List Value} {ls : qxL} {z y : Int32} : Rs L xs (d) 328 49 ls (.int y :: .int z :: st) M x = if z = y then Rs L xs (d) 328 52 ls st M x else Rs L xs (d) 328 65 ls st M x := Rs_ite c328_49 rfl
theorem c328_52 : qx_code 328 52 = some (52, .aload_n 0, 53, 0, 0, 0) := by decide +kernel
theorem s328_52 {L : Nat} {xs : Nat → Int32} {d x : Nat} {M : qxM} {st : List Value} {a1 a2 a3 : Option Value} {z : Nat} : Rs L xs (d) 328 52 [some (.ref z), a1, a2, a3] st M x = Rs L xs (d) 328 53 [some (.ref z), a1, a2, a3] (.ref z :: st) M x := Rs_next c328_52 rfl
theorem c328_53 : qx_code 328 53 = some (53, .getfield 9, 56, 8, 1, 1546) := by decide +kernel
theorem s328_53 {L : Nat} {xs : Nat → Int32} {d x : Nat} {M : qxM} {st : List Value} {ls : qxL} {t : Nat} (hk : qx_kd t = 18) : Rs L xs (d) 328 53 ls (.ref t :: st) M x = Rs L xs (d) 328 56 ls (.ref (t + 1) :: st) M x := Rs_when (qx_kd_obj (k := 8) (by decide) hk) c328_53 rfl
theorem c328_56 : qx_code 328 56 = some (56, .iconst 2, 57, 0, 0, 0) := by decide +kernel
theorem s328_56 {L : Nat} {xs : Nat → Int32} {d x : Nat} {M : qxM} {st : List Value} {ls : qxL} : Rs L xs (d) 328 56 ls st M x = Rs L xs (d) 328 57 ls (.int (nI 2) :: st) M x := Rs_next c328_56 rfl
theorem c328_57 : qx_code 328 57 = some (57, .iaload, 58, 0, 0, 0) := by decide +kernel
theorem s328_57 {L : Nat} {xs : Nat → Int32} {d x : Nat} {M : qxM} {st : List Value} {ls : qxL} {t : Nat} {j : Int32} (hk : qx_kd t = 0) (hj : qx_ib j (qx_ln t) = true) : Rs L xs (d) 328 57 ls (.int j :: .ref t :: st) M x = Rs L xs (d) 328 58 ls (.int (M.1 t j.toNatClampNeg) :: st) M x := by
  have h1 := qx_kd_row (k := 0) (by decide) hk
  exact Rs_unless (qx_ib_not hj) c328_57 (by unfold qx_act; dsimp only; rw [h1]; rfl)
theorem c328_58 : qx_code 328 58 = some (58, .iconst 1, 59, 0, 0, 0) := by decide +kernel
theorem s328_58 {L : Nat} {xs : Nat → Int32} {d x : Nat} {M : qxM} {st : List Value} {ls : qxL} : Rs L xs (d) 328 58 ls st M x = Rs L xs (d) 328 59 ls (.int (nI 1) :: st) M x := Rs_next c328_58 rfl
theorem c328_59 : qx_code 328 59 = some (59, .iload_n 1, 60, 0, 0, 0) := by decide +kernel
theorem s328_59 {L : Nat} {xs : Nat → Int32} {d x : Nat} {M : qxM} {st : List Value} {a0 a2 a3 : Option Value} {z : Int32} : Rs L xs (d) 328 59 [a0, some (.int z), a2, a3] st M x = Rs L xs (d) 328 60 [a0, some (.int z), a2, a3] (.int z :: st) M x := Rs_next c328_59 rfl
theorem c328_60 : qx_code 328 60 = some (60, .ishl, 61, 0, 0, 0) := by decide +kernel
theorem s328_60 {L : Nat} {xs : Nat → Int32} {d x : Nat} {M : qxM} {st : List Value} {ls : qxL} {z y : Int32} : Rs L xs (d) 328 60 ls (.int y :: .int z :: st) M x = Rs L xs (d) 328 61 ls (.int (z <<< (y &&& 31)) :: st) M x := Rs_next c328_60 rfl
theorem c328_61 : qx_code 328 61 = some (61, .ior, 62, 0, 0, 0) := by decide +kernel
theorem s328_61 {L : Nat} {xs : Nat → Int32} {d x : Nat} {M : qxM} {st : List Value} {ls : qxL} {z y : Int32} : Rs L xs (d) 328 61 ls (.int y :: .int z :: st) M x = Rs L xs (d) 328 62 ls (.int (z ||| y) :: st) M x := Rs_next c328_61 rfl
theorem c328_62 : qx_code 328 62 = some (62, .goto 15, 65, 77, 0, 0) := by decide +kernel
theorem s328_62 {L : Nat} {xs : Nat → Int32} {d x : Nat} {M : qxM} {st : List Value} {ls : qxL} : Rs L xs (d) 328 62 ls st M x = Rs L xs (d) 328 77 ls st M x := Rs_next c328_62 rfl
theorem c328_65 : qx_code 328 65 = some (65, .aload_n 0, 66, 0, 0, 0) := by decide +kernel
theorem s328_65 {L : Nat} {xs : Nat → Int32} {d x : Nat} {M : qxM} {st : List Value} {a1 a2 a3 : Option Value} {z : Nat} : Rs L xs (d) 328 65 [some (.ref z), a1, a2, a3] st M x = Rs L xs (d) 328 66 [some (.ref z), a1, a2, a3] (.ref z :: st) M x := Rs_next c328_65 rfl
theorem c328_66 : qx_code 328 66 = some (66, .getfield 9, 69, 8, 1, 1546) := by decide +kernel
theorem s328_66 {L : Nat} {xs : Nat → Int32} {d x : Nat} {M : qxM} {st : List Value} {ls : qxL} {t : Nat} (hk : qx_kd t = 18) : Rs L xs (d) 328 66 ls (.ref t :: st) M x = Rs L xs (d) 328 69 ls (.ref (t + 1) :: st) M x := Rs_when (qx_kd_obj (k := 8) (by decide) hk) c328_66 rfl
theorem c328_69 : qx_code 328 69 = some (69, .iconst 2, 70, 0, 0, 0) := by decide +kernel
theorem s328_69 {L : Nat} {xs : Nat → Int32} {d x : Nat} {M : qxM} {st : List Value} {ls : qxL} : Rs L xs (d) 328 69 ls st M x = Rs L xs (d) 328 70 ls (.int (nI 2) :: st) M x := Rs_next c328_69 rfl
theorem c328_70 : qx_code 328 70 = some (70, .iaload, 71, 0, 0, 0) := by decide +kernel
theorem s328_70 {L : Nat} {xs : Nat → Int32} {d x : Nat} {M : qxM} {st : List Value} {ls : qxL} {t : Nat} {j : Int32} (hk : qx_kd t = 0) (hj : qx_ib j (qx_ln t) = true) : Rs L xs (d) 328 70 ls (.int j :: .ref t :: st) M x = Rs L xs (d) 328 71 ls (.int (M.1 t j.toNatClampNeg) :: st) M x := by
  have h1 := qx_kd_row (k := 0) (by decide) hk
  exact Rs_unless (qx_ib_not hj) c328_70 (by unfold qx_act; dsimp only; rw [h1]; rfl)
theorem c328_71 : qx_code 328 71 = some (71, .iconst 1, 72, 0, 0, 0) := by decide +kernel
theorem s328_71 {L : Nat} {xs : Nat → Int32} {d x : Nat} {M : qxM} {st : List Value} {ls : qxL} : Rs L xs (d) 328 71 ls st M x = Rs L xs (d) 328 72 ls (.int (nI 1) :: st) M x := Rs_next c328_71 rfl
theorem c328_72 : qx_code 328 72 = some (72, .iload_n 1, 73, 0, 0, 0) := by decide +kernel
theorem s328_72 {L : Nat} {xs : Nat → Int32} {d x : Nat} {M : qxM} {st : List Value} {a0 a2 a3 : Option Value} {z : Int32} : Rs L xs (d) 328 72 [a0, some (.int z), a2, a3] st M x = Rs L xs (d) 328 73 [a0, some (.int z), a2, a3] (.int z :: st) M x := Rs_next c328_72 rfl
theorem c328_73 : qx_code 328 73 = some (73, .ishl, 74, 0, 0, 0) := by decide +kernel
theorem s328_73 {L : Nat} {xs : Nat → Int32} {d x : Nat} {M : qxM} {st : List Value} {ls : qxL} {z y : Int32} : Rs L xs (d) 328 73 ls (.int y :: .int z :: st) M x = Rs L xs (d) 328 74 ls (.int (z <<< (y &&& 31)) :: st) M x := Rs_next c328_73 rfl
theorem c328_74 : qx_code 328 74 = some (74, .iconst (-1), 75, 0, 0, 0) := by decide +kernel
theorem s328_74 {L : Nat} {xs : Nat → Int32} {d x : Nat} {M : qxM} {st : List Value} {ls : qxL} : Rs L xs (d) 328 74 ls st M x = Rs L xs (d) 328 75 ls (.int (-1) :: st) M x := Rs_next c328_74 rfl
theorem c328_75 : qx_code 328 75 = some (75, .ixor, 76, 0, 0, 0) := by decide +kernel
theorem s328_75 {L : Nat} {xs : Nat → Int32} {d x : Nat} {M : qxM} {st : List Value} {ls : qxL} {z y : Int32} : Rs L xs (d) 328 75 ls (.int y :: .int z :: st) M x = Rs L xs (d) 328 76 ls (.int (z ^^^ y) :: st) M x := Rs_next c328_75 rfl
theorem c328_76 : qx_code 328 76 = some (76, .iand, 77, 0, 0, 0) := by decide +kernel
theorem s328_76 {L : Nat} {xs : Nat → Int32} {d x : Nat} {M : qxM} {st : List Value} {ls : qxL} {z y : Int32} : Rs L xs (d) 328 76 ls (.int y :: .int z :: st) M x = Rs L xs (d) 328 77 ls (.int (z &&& y) :: st) M x := Rs_next c328_76 rfl
theorem c328_77 : qx_code 328 77 = some (77, .iastore, 78, 0, 0, 0) := by decide +kernel
theorem s328_77 {L : Nat} {xs : Nat → Int32} {d x : Nat} {M : qxM} {st : List Value} {ls : qxL} {t : Nat} {j : Int32} {z : Int32} (hk : qx_kd t = 0) (hj : qx_ib j (qx_ln t) = true) : Rs L xs (d) 328 77 ls (.int z :: .int j :: .ref t :: st) M x = Rs L xs (d) 328 78 ls st (qx_up M t j.toNatClampNeg z) x := by
  have h1 := qx_kd_row (k := 0) (by decide) hk
  exact Rs_unless (qx_ib_not hj) c328_77 (by unfold qx_act; dsimp only; rw [h1]; rfl)
theorem c328_78 : qx_code 328 78 = some (78, .aload_n 0, 79, 0, 0, 0) := by decide +kernel
theorem s328_78 {L : Nat} {xs : Nat → Int32} {d x : Nat} {M : qxM} {st : List Value} {a1 a2 a3 : Option Value} {z : Nat} : Rs L xs (d) 328 78 [some (.ref z), a1, a2, a3] st M x = Rs L xs (d) 328 79 [some (.ref z), a1, a2, a3] (.ref z :: st) M x := Rs_next c328_78 rfl
theorem c328_79 : qx_code 328 79 = some (79, .getfield 9, 82, 8, 1, 1546) := by decide +kernel
theorem s328_79 {L : Nat} {xs : Nat → Int32} {d x : Nat} {M : qxM} {st : List Value} {ls : qxL} {t : Nat} (hk : qx_kd t = 18) : Rs L xs (d) 328 79 ls (.ref t :: st) M x = Rs L xs (d) 328 82 ls (.ref (t + 1) :: st) M x := Rs_when (qx_kd_obj (k := 8) (by decide) hk) c328_79 rfl
theorem c328_82 : qx_code 328 82 = some (82, .bipush 6, 84, 0, 0, 0) := by decide +kernel
theorem s328_82 {L : Nat} {xs : Nat → Int32} {d x : Nat} {M : qxM} {st : List Value} {ls : qxL} : Rs L xs (d) 328 82 ls st M x = Rs L xs (d) 328 84 ls (.int (nI 6) :: st) M x := Rs_next c328_82 rfl
theorem c328_84 : qx_code 328 84 = some (84, .dup2, 85, 0, 0, 0) := by decide +kernel
theorem s328_84 {L : Nat} {xs : Nat → Int32} {d x : Nat} {M : qxM} {st : List Value} {ls : qxL} {z : Nat} {y : Int32} : Rs L xs (d) 328 84 ls (.int y :: .ref z :: st) M x = Rs L xs (d) 328 85 ls (.int y :: .ref z :: .int y :: .ref z :: st) M x := Rs_next c328_84 rfl
theorem c328_85 : qx_code 328 85 = some (85, .iaload, 86, 0, 0, 0) := by decide +kernel
theorem s328_85 {L : Nat} {xs : Nat → Int32} {d x : Nat} {M : qxM} {st : List Value} {ls : qxL} {t : Nat} {j : Int32} (hk : qx_kd t = 0) (hj : qx_ib j (qx_ln t) = true) : Rs L xs (d) 328 85 ls (.int j :: .ref t :: st) M x = Rs L xs (d) 328 86 ls (.int (M.1 t j.toNatClampNeg) :: st) M x := by
  have h1 := qx_kd_row (k := 0) (by decide) hk
  exact Rs_unless (qx_ib_not hj) c328_85 (by unfold qx_act; dsimp only; rw [h1]; rfl)
theorem c328_86 : qx_code 328 86 = some (86, .aload_n 0, 87, 0, 0, 0) := by decide +kernel
theorem s328_86 {L : Nat} {xs : Nat → Int32} {d x : Nat} {M : qxM} {st : List Value} {a1 a2 a3 : Option Value} {z : Nat} : Rs L xs (d) 328 86 [some (.ref z), a1, a2, a3] st M x = Rs L xs (d) 328 87 [some (.ref z), a1, a2, a3] (.ref z :: st) M x := Rs_next c328_86 rfl
theorem c328_87 : qx_code 328 87 = some (87, .invokevirtual 175, 90, 221, 1, 1757) := by decide +kernel
theorem s328_87 {L : Nat} {xs : Nat → Int32} {d x : Nat} {M : qxM} {st : List Value} {ls : qxL} {t : Nat} (hk : qx_kd t = 18) (hs : st.length ≤ 4) : Rs L xs (d + 1) 328 87 ls (.ref t :: st) M x = (Rs L xs d 221 0 [some (.ref t), none, none] [] M 0).bind (qx_kn L xs (d + 1) 328 87 90 221 ls st x) := by
  have h1 : qx_act L xs (qx_rt 328) (87, .invokevirtual 175, 90, 221, 1, 1757) ls (.ref t :: st) M = if 1 ≤ (.ref t :: st).length ∧ st.length ≤ 4 then some (.inr (.inr (.inr (221, [.ref t], st)))) else none := rfl
  rw [if_pos ⟨by simp [List.length_cons]; try omega, hs⟩] at h1
  have h2 := qx_kd_obj (k := 8) (by decide) hk
  exact Rs_call c328_87 h1 (by rw [show qx_args 221 [.ref t] = decide (qx_sh t = some (.inl 8)) from rfl]; exact decide_eq_true h2)
theorem c328_90 : qx_code 328 90 = some (90, .iadd, 91, 0, 0, 0) := by decide +kernel
theorem s328_90 {L : Nat} {xs : Nat → Int32} {d x : Nat} {M : qxM} {st : List Value} {ls : qxL} {z y : Int32} : Rs L xs (d) 328 90 ls (.int y :: .int z :: st) M x = Rs L xs (d) 328 91 ls (.int (z + y) :: st) M x := Rs_next c328_90 rfl
theorem c328_91 : qx_code 328 91 = some (91, .iastore, 92, 0, 0, 0) := by decide +kernel
theorem s328_91 {L : Nat} {xs : Nat → Int32} {d x : Nat} {M : qxM} {st : List Value} {ls : qxL} {t : Nat} {j : Int32} {z : Int32} (hk : qx_kd t = 0) (hj : qx_ib j (qx_ln t) = true) : Rs L xs (d) 328 91 ls (.int z :: .int j :: .ref t :: st) M x = Rs L xs (d) 328 92 ls st (qx_up M t j.toNatClampNeg z) x := by
  have h1 := qx_kd_row (k := 0) (by decide) hk
  exact Rs_unless (qx_ib_not hj) c328_91 (by unfold qx_act; dsimp only; rw [h1]; rfl)
theorem c328_92 : qx_code 328 92 = some (92, .iload_n 3, 93, 0, 0, 0) := by decide +kernel
theorem s328_92 {L : Nat} {xs : Nat → Int32} {d x : Nat} {M : qxM} {st : List Value} {a0 a1 a2 : Option Value} {z : Int32} : Rs L xs (d) 328 92 [a0, a1, a2, some (.int z)] st M x = Rs L xs (d) 328 93 [a0, a1, a2, some (.int z)] (.int z :: st) M x := Rs_next c328_92 rfl
theorem c328_93 : qx_code 328 93 = some (93, .ireturn, 94, 0, 0, 0) := by decide +kernel
theorem s328_93 {L : Nat} {xs : Nat → Int32} {d x : Nat} {M : qxM} {ls : qxL} {z : Int32} : Rs L xs (d) 328 93 ls [.int z] M x = some (.inl (some (.int z)), M, x) := Rs_ret c328_93 rfl
theorem c329_0 : qx_code 329 0 = some (0, .aload_n 0, 1, 0, 0, 0) := by decide +kernel
theorem s329_0 {L : Nat} {xs : Nat → Int32} {d x : Nat} {M : qxM} {st : List Value} {a1 a2 : Option Value} {z : Nat} : Rs L xs (d) 329 0 [some (.ref z), a1, a2] st M x = Rs L xs (d) 329 1 [some (.ref z), a1, a2] (.ref z :: st) M x := Rs_next c329_0 rfl
theorem c329_1 : qx_code 329 1 = some (1, .aload_n 0, 2, 0, 0, 0) := by decide +kernel
theorem s329_1 {L : Nat} {xs : Nat → Int32} {d x : Nat} {M : qxM} {st : List Value} {a1 a2 : Option Value} {z : Nat} : Rs L xs (d) 329 1 [some (.ref z), a1, a2] st M x = Rs L xs (d) 329 2 [some (.ref z), a1, a2] (.ref z :: st) M x := Rs_next c329_1 rfl
theorem c329_2 : qx_code 329 2 = some (2, .getfield 187, 5, 8, 6, 1551) := by decide +kernel
theorem s329_2 {L : Nat} {xs : Nat → Int32} {d x : Nat} {M : qxM} {st : List Value} {ls : qxL} {t : Nat} (hk : qx_kd t = 18) : Rs L xs (d) 329 2 ls (.ref t :: st) M x = Rs L xs (d) 329 5 ls (.int (M.1 t 6) :: st) M x := Rs_when (qx_kd_obj (k := 8) (by decide) hk) c329_2 rfl
theorem c329_5 : qx_code 329 5 = some (5, .iload_n 1, 6, 0, 0, 0) := by decide +kernel
theorem s329_5 {L : Nat} {xs : Nat → Int32} {d x : Nat} {M : qxM} {st : List Value} {a0 a2 : Option Value} {z : Int32} : Rs L xs (d) 329 5 [a0, some (.int z), a2] st M x = Rs L xs (d) 329 6 [a0, some (.int z), a2] (.int z :: st) M x := Rs_next c329_5 rfl
theorem c329_6 : qx_code 329 6 = some (6, .invokestatic 357, 9, 302, 1, 2054) := by decide +kernel
theorem s329_6 {L : Nat} {xs : Nat → Int32} {d x : Nat} {M : qxM} {st : List Value} {ls : qxL} {z0 : Int32} (hs : st.length ≤ 4) : Rs L xs (d + 1) 329 6 ls (.int z0 :: st) M x = (Rs L xs d 302 0 [some (.int z0)] [] M 0).bind (qx_kn L xs (d + 1) 329 6 9 302 ls st x) := by
  have h1 : qx_act L xs (qx_rt 329) (6, .invokestatic 357, 9, 302, 1, 2054) ls (.int z0 :: st) M = if 1 ≤ (.int z0 :: st).length ∧ st.length ≤ 4 then some (.inr (.inr (.inr (302, [.int z0], st)))) else none := rfl
  rw [if_pos ⟨by simp [List.length_cons]; try omega, hs⟩] at h1
  exact Rs_call c329_6 h1 rfl
theorem c329_9 : qx_code 329 9 = some (9, .invokevirtual 216, 12, 181, 3, 1773) := by decide +kernel
theorem s329_9 {L : Nat} {xs : Nat → Int32} {d x : Nat} {M : qxM} {st : List Value} {ls : qxL} {t : Nat} {z0 : Int32} {z1 : Int32} (hk : qx_kd t = 18) (hs : st.length ≤ 4) : Rs L xs (d + 1) 329 9 ls (.int z1 :: .int z0 :: .ref t :: st) M x = (Rs L xs d 181 0 [some (.ref t), some (.int z0), some (.int z1)] [] M 0).bind (qx_kn L xs (d + 1) 329 9 12 181 ls st x) := by
  have h1 : qx_act L xs (qx_rt 329) (9, .invokevirtual 216, 12, 181, 3, 1773) ls (.int z1 :: .int z0 :: .ref t :: st) M = if 3 ≤ (.int z1 :: .int z0 :: .ref t :: st).length ∧ st.length ≤ 4 then some (.inr (.inr (.inr (181, [.ref t, .int z0, .int z1], st)))) else none := rfl
  rw [if_pos ⟨by simp [List.length_cons]; try omega, hs⟩] at h1
  have h2 := qx_kd_obj (k := 8) (by decide) hk
  exact Rs_call c329_9 h1 (by rw [show qx_args 181 [.ref t, .int z0, .int z1] = decide (qx_sh t = some (.inl 8)) from rfl]; exact decide_eq_true h2)
theorem c329_12 : qx_code 329 12 = some (12, .ifCond .ne 5, 15, 17, 0, 0) := by decide +kernel
theorem s329_12 {L : Nat} {xs : Nat → Int32} {d x : Nat} {M : qxM} {st : List Value} {ls : qxL} {z : Int32} : Rs L xs (d) 329 12 ls (.int z :: st) M x = if z = 0 then Rs L xs (d) 329 15 ls st M x else Rs L xs (d) 329 17 ls st M x := Rs_ite c329_12 rfl
theorem c329_15 : qx_code 329 15 = some (15, .iconst 0, 16, 0, 0, 0) := by decide +kernel
theorem s329_15 {L : Nat} {xs : Nat → Int32} {d x : Nat} {M : qxM} {st : List Value} {ls : qxL} : Rs L xs (d) 329 15 ls st M x = Rs L xs (d) 329 16 ls (.int (nI 0) :: st) M x := Rs_next c329_15 rfl
theorem c329_16 : qx_code 329 16 = some (16, .ireturn, 17, 0, 0, 0) := by decide +kernel
theorem s329_16 {L : Nat} {xs : Nat → Int32} {d x : Nat} {M : qxM} {ls : qxL} {z : Int32} : Rs L xs (d) 329 16 ls [.int z] M x = some (.inl (some (.int z)), M, x) := Rs_ret c329_16 rfl
theorem c329_17 : qx_code 329 17 = some (17, .aload_n 0, 18, 0, 0, 0) := by decide +kernel
theorem s329_17 {L : Nat} {xs : Nat → Int32} {d x : Nat} {M : qxM} {st : List Value} {a1 a2 : Option Value} {z : Nat} : Rs L xs (d) 329 17 [some (.ref z), a1, a2] st M x = Rs L xs (d) 329 18 [some (.ref z), a1, a2] (.ref z :: st) M x := Rs_next c329_17 rfl
theorem c329_18 : qx_code 329 18 = some (18, .invokevirtual 387, 21, 319, 1, 2201) := by decide +kernel
theorem s329_18 {L : Nat} {xs : Nat → Int32} {d x : Nat} {M : qxM} {st : List Value} {ls : qxL} {t : Nat} (hk : qx_kd t = 18) (hs : st.length ≤ 4) : Rs L xs (d + 1) 329 18 ls (.ref t :: st) M x = (Rs L xs d 319 0 [some (.ref t)] [] M 0).bind (qx_kn L xs (d + 1) 329 18 21 319 ls st x) := by
  have h1 : qx_act L xs (qx_rt 329) (18, .invokevirtual 387, 21, 319, 1, 2201) ls (.ref t :: st) M = if 1 ≤ (.ref t :: st).length ∧ st.length ≤ 4 then some (.inr (.inr (.inr (319, [.ref t], st)))) else none := rfl
  rw [if_pos ⟨by simp [List.length_cons]; try omega, hs⟩] at h1
  have h2 := qx_kd_obj (k := 8) (by decide) hk
  exact Rs_call c329_18 h1 (by rw [show qx_args 319 [.ref t] = decide (qx_sh t = some (.inl 8)) from rfl]; exact decide_eq_true h2)
theorem c329_21 : qx_code 329 21 = some (21, .aload_n 0, 22, 0, 0, 0) := by decide +kernel
theorem s329_21 {L : Nat} {xs : Nat → Int32} {d x : Nat} {M : qxM} {st : List Value} {a1 a2 : Option Value} {z : Nat} : Rs L xs (d) 329 21 [some (.ref z), a1, a2] st M x = Rs L xs (d) 329 22 [some (.ref z), a1, a2] (.ref z :: st) M x := Rs_next c329_21 rfl
theorem c329_22 : qx_code 329 22 = some (22, .getfield 9, 25, 8, 1, 1546) := by decide +kernel
theorem s329_22 {L : Nat} {xs : Nat → Int32} {d x : Nat} {M : qxM} {st : List Value} {ls : qxL} {t : Nat} (hk : qx_kd t = 18) : Rs L xs (d) 329 22 ls (.ref t :: st) M x = Rs L xs (d) 329 25 ls (.ref (t + 1) :: st) M x := Rs_when (qx_kd_obj (k := 8) (by decide) hk) c329_22 rfl
theorem c329_25 : qx_code 329 25 = some (25, .iconst 1, 26, 0, 0, 0) := by decide +kernel
theorem s329_25 {L : Nat} {xs : Nat → Int32} {d x : Nat} {M : qxM} {st : List Value} {ls : qxL} : Rs L xs (d) 329 25 ls st M x = Rs L xs (d) 329 26 ls (.int (nI 1) :: st) M x := Rs_next c329_25 rfl
theorem c329_26 : qx_code 329 26 = some (26, .iaload, 27, 0, 0, 0) := by decide +kernel
theorem s329_26 {L : Nat} {xs : Nat → Int32} {d x : Nat} {M : qxM} {st : List Value} {ls : qxL} {t : Nat} {j : Int32} (hk : qx_kd t = 0) (hj : qx_ib j (qx_ln t) = true) : Rs L xs (d) 329 26 ls (.int j :: .ref t :: st) M x = Rs L xs (d) 329 27 ls (.int (M.1 t j.toNatClampNeg) :: st) M x := by
  have h1 := qx_kd_row (k := 0) (by decide) hk
  exact Rs_unless (qx_ib_not hj) c329_26 (by unfold qx_act; dsimp only; rw [h1]; rfl)
theorem c329_27 : qx_code 329 27 = some (27, .istore_n 2, 28, 0, 0, 0) := by decide +kernel
theorem s329_27i {L : Nat} {xs : Nat → Int32} {d x : Nat} {M : qxM} {st : List Value} {a0 a2 : Option Value} {z : Int32} {y : Int32} : Rs L xs (d) 329 27 [a0, some (.int y), a2] (.int z :: st) M x = Rs L xs (d) 329 28 [a0, some (.int y), some (.int z)] st M x := Rs_next c329_27 rfl
theorem s329_27r {L : Nat} {xs : Nat → Int32} {d x : Nat} {M : qxM} {st : List Value} {a0 a2 : Option Value} {z : Int32} {y : Nat} : Rs L xs (d) 329 27 [a0, some (.ref y), a2] (.int z :: st) M x = Rs L xs (d) 329 28 [a0, some (.ref y), some (.int z)] st M x := Rs_next c329_27 rfl
theorem s329_27n {L : Nat} {xs : Nat → Int32} {d x : Nat} {M : qxM} {st : List Value} {a0 a2 : Option Value} {z : Int32} : Rs L xs (d) 329 27 [a0, none, a2] (.int z :: st) M x = Rs L xs (d) 329 28 [a0, none, some (.int z)] st M x := Rs_next c329_27 rfl
theorem c329_28 : qx_code 329 28 = some (28, .aload_n 0, 29, 0, 0, 0) := by decide +kernel
theorem s329_28 {L : Nat} {xs : Nat → Int32} {d x : Nat} {M : qxM} {st : List Value} {a1 a2 : Option Value} {z : Nat} : Rs L xs (d) 329 28 [some (.ref z), a1, a2] st M x = Rs L xs (d) 329 29 [some (.ref z), a1, a2] (.ref z :: st) M x := Rs_next c329_28 rfl
theorem c329_29 : qx_code 329 29 = some (29, .getfield 9, 32, 8, 1, 1546) := by decide +kernel
theorem s329_29 {L : Nat} {xs : Nat → Int32} {d x : Nat} {M : qxM} {st : List Value} {ls : qxL} {t : Nat} (hk : qx_kd t = 18) : Rs L xs (d) 329 29 ls (.ref t :: st) M x = Rs L xs (d) 329 32 ls (.ref (t + 1) :: st) M x := Rs_when (qx_kd_obj (k := 8) (by decide) hk) c329_29 rfl
theorem c329_32 : qx_code 329 32 = some (32, .iconst 1, 33, 0, 0, 0) := by decide +kernel
theorem s329_32 {L : Nat} {xs : Nat → Int32} {d x : Nat} {M : qxM} {st : List Value} {ls : qxL} : Rs L xs (d) 329 32 ls st M x = Rs L xs (d) 329 33 ls (.int (nI 1) :: st) M x := Rs_next c329_32 rfl
theorem c329_33 : qx_code 329 33 = some (33, .iload_n 1, 34, 0, 0, 0) := by decide +kernel
theorem s329_33 {L : Nat} {xs : Nat → Int32} {d x : Nat} {M : qxM} {st : List Value} {a0 a2 : Option Value} {z : Int32} : Rs L xs (d) 329 33 [a0, some (.int z), a2] st M x = Rs L xs (d) 329 34 [a0, some (.int z), a2] (.int z :: st) M x := Rs_next c329_33 rfl
theorem c329_34 : qx_code 329 34 = some (34, .iastore, 35, 0, 0, 0) := by decide +kernel
theorem s329_34 {L : Nat} {xs : Nat → Int32} {d x : Nat} {M : qxM} {st : List Value} {ls : qxL} {t : Nat} {j : Int32} {z : Int32} (hk : qx_kd t = 0) (hj : qx_ib j (qx_ln t) = true) : Rs L xs (d) 329 34 ls (.int z :: .int j :: .ref t :: st) M x = Rs L xs (d) 329 35 ls st (qx_up M t j.toNatClampNeg z) x := by
  have h1 := qx_kd_row (k := 0) (by decide) hk
  exact Rs_unless (qx_ib_not hj) c329_34 (by unfold qx_act; dsimp only; rw [h1]; rfl)
theorem c329_35 : qx_code 329 35 = some (35, .aload_n 0, 36, 0, 0, 0) := by decide +kernel
theorem s329_35 {L : Nat} {xs : Nat → Int32} {d x : Nat} {M : qxM} {st : List Value} {a1 a2 : Option Value} {z : Nat} : Rs L xs (d) 329 35 [some (.ref z), a1, a2] st M x = Rs L xs (d) 329 36 [some (.ref z), a1, a2] (.ref z :: st) M x := Rs_next c329_35 rfl
theorem c329_36 : qx_code 329 36 = some (36, .getfield 9, 39, 8, 1, 1546) := by decide +kernel
theorem s329_36 {L : Nat} {xs : Nat → Int32} {d x : Nat} {M : qxM} {st : List Value} {ls : qxL} {t : Nat} (hk : qx_kd t = 18) : Rs L xs (d) 329 36 ls (.ref t :: st) M x = Rs L xs (d) 329 39 ls (.ref (t + 1) :: st) M x := Rs_when (qx_kd_obj (k := 8) (by decide) hk) c329_36 rfl
theorem c329_39 : qx_code 329 39 = some (39, .bipush 6, 41, 0, 0, 0) := by decide +kernel
theorem s329_39 {L : Nat} {xs : Nat → Int32} {d x : Nat} {M : qxM} {st : List Value} {ls : qxL} : Rs L xs (d) 329 39 ls st M x = Rs L xs (d) 329 41 ls (.int (nI 6) :: st) M x := Rs_next c329_39 rfl
theorem c329_41 : qx_code 329 41 = some (41, .dup2, 42, 0, 0, 0) := by decide +kernel
theorem s329_41 {L : Nat} {xs : Nat → Int32} {d x : Nat} {M : qxM} {st : List Value} {ls : qxL} {z : Nat} {y : Int32} : Rs L xs (d) 329 41 ls (.int y :: .ref z :: st) M x = Rs L xs (d) 329 42 ls (.int y :: .ref z :: .int y :: .ref z :: st) M x := Rs_next c329_41 rfl
theorem c329_42 : qx_code 329 42 = some (42, .iaload, 43, 0, 0, 0) := by decide +kernel
theorem s329_42 {L : Nat} {xs : Nat → Int32} {d x : Nat} {M : qxM} {st : List Value} {ls : qxL} {t : Nat} {j : Int32} (hk : qx_kd t = 0) (hj : qx_ib j (qx_ln t) = true) : Rs L xs (d) 329 42 ls (.int j :: .ref t :: st) M x = Rs L xs (d) 329 43 ls (.int (M.1 t j.toNatClampNeg) :: st) M x := by
  have h1 := qx_kd_row (k := 0) (by decide) hk
  exact Rs_unless (qx_ib_not hj) c329_42 (by unfold qx_act; dsimp only; rw [h1]; rfl)
theorem c329_43 : qx_code 329 43 = some (43, .aload_n 0, 44, 0, 0, 0) := by decide +kernel
theorem s329_43 {L : Nat} {xs : Nat → Int32} {d x : Nat} {M : qxM} {st : List Value} {a1 a2 : Option Value} {z : Nat} : Rs L xs (d) 329 43 [some (.ref z), a1, a2] st M x = Rs L xs (d) 329 44 [some (.ref z), a1, a2] (.ref z :: st) M x := Rs_next c329_43 rfl
theorem c329_44 : qx_code 329 44 = some (44, .invokevirtual 175, 47, 221, 1, 1757) := by decide +kernel
theorem s329_44 {L : Nat} {xs : Nat → Int32} {d x : Nat} {M : qxM} {st : List Value} {ls : qxL} {t : Nat} (hk : qx_kd t = 18) (hs : st.length ≤ 4) : Rs L xs (d + 1) 329 44 ls (.ref t :: st) M x = (Rs L xs d 221 0 [some (.ref t), none, none] [] M 0).bind (qx_kn L xs (d + 1) 329 44 47 221 ls st x) := by
  have h1 : qx_act L xs (qx_rt 329) (44, .invokevirtual 175, 47, 221, 1, 1757) ls (.ref t :: st) M = if 1 ≤ (.ref t :: st).length ∧ st.length ≤ 4 then some (.inr (.inr (.inr (221, [.ref t], st)))) else none := rfl
  rw [if_pos ⟨by simp [List.length_cons]; try omega, hs⟩] at h1
  have h2 := qx_kd_obj (k := 8) (by decide) hk
  exact Rs_call c329_44 h1 (by rw [show qx_args 221 [.ref t] = decide (qx_sh t = some (.inl 8)) from rfl]; exact decide_eq_true h2)
theorem c329_47 : qx_code 329 47 = some (47, .iadd, 48, 0, 0, 0) := by decide +kernel
theorem s329_47 {L : Nat} {xs : Nat → Int32} {d x : Nat} {M : qxM} {st : List Value} {ls : qxL} {z y : Int32} : Rs L xs (d) 329 47 ls (.int y :: .int z :: st) M x = Rs L xs (d) 329 48 ls (.int (z + y) :: st) M x := Rs_next c329_47 rfl
theorem c329_48 : qx_code 329 48 = some (48, .iastore, 49, 0, 0, 0) := by decide +kernel
theorem s329_48 {L : Nat} {xs : Nat → Int32} {d x : Nat} {M : qxM} {st : List Value} {ls : qxL} {t : Nat} {j : Int32} {z : Int32} (hk : qx_kd t = 0) (hj : qx_ib j (qx_ln t) = true) : Rs L xs (d) 329 48 ls (.int z :: .int j :: .ref t :: st) M x = Rs L xs (d) 329 49 ls st (qx_up M t j.toNatClampNeg z) x := by
  have h1 := qx_kd_row (k := 0) (by decide) hk
  exact Rs_unless (qx_ib_not hj) c329_48 (by unfold qx_act; dsimp only; rw [h1]; rfl)
theorem c329_49 : qx_code 329 49 = some (49, .iload_n 2, 50, 0, 0, 0) := by decide +kernel
theorem s329_49 {L : Nat} {xs : Nat → Int32} {d x : Nat} {M : qxM} {st : List Value} {a0 a1 : Option Value} {z : Int32} : Rs L xs (d) 329 49 [a0, a1, some (.int z)] st M x = Rs L xs (d) 329 50 [a0, a1, some (.int z)] (.int z :: st) M x := Rs_next c329_49 rfl
theorem c329_50 : qx_code 329 50 = some (50, .ireturn, 51, 0, 0, 0) := by decide +kernel
theorem s329_50 {L : Nat} {xs : Nat → Int32} {d x : Nat} {M : qxM} {ls : qxL} {z : Int32} : Rs L xs (d) 329 50 ls [.int z] M x = some (.inl (some (.int z)), M, x) := Rs_ret c329_50 rfl
theorem c330_0 : qx_code 330 0 = some (0, .aload_n 0, 1, 0, 0, 0) := by decide +kernel
theorem s330_0 {L : Nat} {xs : Nat → Int32} {d x : Nat} {M : qxM} {st : List Value} {z : Nat} : Rs L xs (d) 330 0 [some (.ref z)] st M x = Rs L xs (d) 330 1 [some (.ref z)] (.ref z :: st) M x := Rs_next c330_0 rfl
theorem c330_1 : qx_code 330 1 = some (1, .aload_n 0, 2, 0, 0, 0) := by decide +kernel
theorem s330_1 {L : Nat} {xs : Nat → Int32} {d x : Nat} {M : qxM} {st : List Value} {z : Nat} : Rs L xs (d) 330 1 [some (.ref z)] st M x = Rs L xs (d) 330 2 [some (.ref z)] (.ref z :: st) M x := Rs_next c330_1 rfl
theorem c330_2 : qx_code 330 2 = some (2, .getfield 191, 5, 8, 7, 1552) := by decide +kernel
theorem s330_2 {L : Nat} {xs : Nat → Int32} {d x : Nat} {M : qxM} {st : List Value} {ls : qxL} {t : Nat} (hk : qx_kd t = 18) : Rs L xs (d) 330 2 ls (.ref t :: st) M x = Rs L xs (d) 330 5 ls (.int (M.1 t 7) :: st) M x := Rs_when (qx_kd_obj (k := 8) (by decide) hk) c330_2 rfl
theorem c330_5 : qx_code 330 5 = some (5, .ifCond .le 7, 8, 12, 0, 0) := by decide +kernel
theorem s330_5 {L : Nat} {xs : Nat → Int32} {d x : Nat} {M : qxM} {st : List Value} {ls : qxL} {z : Int32} : Rs L xs (d) 330 5 ls (.int z :: st) M x = if z ≤ 0 then Rs L xs (d) 330 12 ls st M x else Rs L xs (d) 330 8 ls st M x := Rs_ite c330_5 rfl
theorem c330_8 : qx_code 330 8 = some (8, .iconst 1, 9, 0, 0, 0) := by decide +kernel
theorem s330_8 {L : Nat} {xs : Nat → Int32} {d x : Nat} {M : qxM} {st : List Value} {ls : qxL} : Rs L xs (d) 330 8 ls st M x = Rs L xs (d) 330 9 ls (.int (nI 1) :: st) M x := Rs_next c330_8 rfl
theorem c330_9 : qx_code 330 9 = some (9, .goto 4, 12, 13, 0, 0) := by decide +kernel
theorem s330_9 {L : Nat} {xs : Nat → Int32} {d x : Nat} {M : qxM} {st : List Value} {ls : qxL} : Rs L xs (d) 330 9 ls st M x = Rs L xs (d) 330 13 ls st M x := Rs_next c330_9 rfl
theorem c330_12 : qx_code 330 12 = some (12, .iconst 0, 13, 0, 0, 0) := by decide +kernel
theorem s330_12 {L : Nat} {xs : Nat → Int32} {d x : Nat} {M : qxM} {st : List Value} {ls : qxL} : Rs L xs (d) 330 12 ls st M x = Rs L xs (d) 330 13 ls (.int (nI 0) :: st) M x := Rs_next c330_12 rfl
theorem c330_13 : qx_code 330 13 = some (13, .iconst 1, 14, 0, 0, 0) := by decide +kernel
theorem s330_13 {L : Nat} {xs : Nat → Int32} {d x : Nat} {M : qxM} {st : List Value} {ls : qxL} : Rs L xs (d) 330 13 ls st M x = Rs L xs (d) 330 14 ls (.int (nI 1) :: st) M x := Rs_next c330_13 rfl
theorem c330_14 : qx_code 330 14 = some (14, .iconst 1, 15, 0, 0, 0) := by decide +kernel
theorem s330_14 {L : Nat} {xs : Nat → Int32} {d x : Nat} {M : qxM} {st : List Value} {ls : qxL} : Rs L xs (d) 330 14 ls st M x = Rs L xs (d) 330 15 ls (.int (nI 1) :: st) M x := Rs_next c330_14 rfl
theorem c330_15 : qx_code 330 15 = some (15, .invokevirtual 49, 18, 180, 4, 1644) := by decide +kernel
theorem s330_15 {L : Nat} {xs : Nat → Int32} {d x : Nat} {M : qxM} {st : List Value} {ls : qxL} {t : Nat} {z0 : Int32} {z1 : Int32} {z2 : Int32} (hk : qx_kd t = 18) (hs : st.length ≤ 4) : Rs L xs (d + 1) 330 15 ls (.int z2 :: .int z1 :: .int z0 :: .ref t :: st) M x = (Rs L xs d 180 0 [some (.ref t), some (.int z0), some (.int z1), some (.int z2)] [] M 0).bind (qx_kn L xs (d + 1) 330 15 18 180 ls st x) := by
  have h1 : qx_act L xs (qx_rt 330) (15, .invokevirtual 49, 18, 180, 4, 1644) ls (.int z2 :: .int z1 :: .int z0 :: .ref t :: st) M = if 4 ≤ (.int z2 :: .int z1 :: .int z0 :: .ref t :: st).length ∧ st.length ≤ 4 then some (.inr (.inr (.inr (180, [.ref t, .int z0, .int z1, .int z2], st)))) else none := rfl
  rw [if_pos ⟨by simp [List.length_cons]; try omega, hs⟩] at h1
  have h2 := qx_kd_obj (k := 8) (by decide) hk
  exact Rs_call c330_15 h1 (by rw [show qx_args 180 [.ref t, .int z0, .int z1, .int z2] = decide (qx_sh t = some (.inl 8)) from rfl]; exact decide_eq_true h2)
theorem c330_18 : qx_code 330 18 = some (18, .ifCond .ne 5, 21, 23, 0, 0) := by decide +kernel
theorem s330_18 {L : Nat} {xs : Nat → Int32} {d x : Nat} {M : qxM} {st : List Value} {ls : qxL} {z : Int32} : Rs L xs (d) 330 18 ls (.int z :: st) M x = if z = 0 then Rs L xs (d) 330 21 ls st M x else Rs L xs (d) 330 23 ls st M x := Rs_ite c330_18 rfl
theorem c330_21 : qx_code 330 21 = some (21, .iconst 0, 22, 0, 0, 0) := by decide +kernel
theorem s330_21 {L : Nat} {xs : Nat → Int32} {d x : Nat} {M : qxM} {st : List Value} {ls : qxL} : Rs L xs (d) 330 21 ls st M x = Rs L xs (d) 330 22 ls (.int (nI 0) :: st) M x := Rs_next c330_21 rfl
theorem c330_22 : qx_code 330 22 = some (22, .ireturn, 23, 0, 0, 0) := by decide +kernel
theorem s330_22 {L : Nat} {xs : Nat → Int32} {d x : Nat} {M : qxM} {ls : qxL} {z : Int32} : Rs L xs (d) 330 22 ls [.int z] M x = some (.inl (some (.int z)), M, x) := Rs_ret c330_22 rfl
theorem c330_23 : qx_code 330 23 = some (23, .aload_n 0, 24, 0, 0, 0) := by decide +kernel
theorem s330_23 {L : Nat} {xs : Nat → Int32} {d x : Nat} {M : qxM} {st : List Value} {z : Nat} : Rs L xs (d) 330 23 [some (.ref z)] st M x = Rs L xs (d) 330 24 [some (.ref z)] (.ref z :: st) M x := Rs_next c330_23 rfl
theorem c330_24 : qx_code 330 24 = some (24, .dup, 25, 0, 0, 0) := by decide +kernel
theorem s330_24r {L : Nat} {xs : Nat → Int32} {d x : Nat} {M : qxM} {st : List Value} {ls : qxL} {z : Nat} : Rs L xs (d) 330 24 ls (.ref z :: st) M x = Rs L xs (d) 330 25 ls (.ref z :: .ref z :: st) M x := Rs_next c330_24 rfl
theorem s330_24i {L : Nat} {xs : Nat → Int32} {d x : Nat} {M : qxM} {st : List Value} {ls : qxL} {z : Int32} : Rs L xs (d) 330 24 ls (.int z :: st) M x = Rs L xs (d) 330 25 ls (.int z :: .int z :: st) M x := Rs_next c330_24 rfl
theorem c330_25 : qx_code 330 25 = some (25, .getfield 191, 28, 8, 7, 1552) := by decide +kernel
theorem s330_25 {L : Nat} {xs : Nat → Int32} {d x : Nat} {M : qxM} {st : List Value} {ls : qxL} {t : Nat} (hk : qx_kd t = 18) : Rs L xs (d) 330 25 ls (.ref t :: st) M x = Rs L xs (d) 330 28 ls (.int (M.1 t 7) :: st) M x := Rs_when (qx_kd_obj (k := 8) (by decide) hk) c330_25 rfl
theorem c330_28 : qx_code 330 28 = some (28, .iconst 1, 29, 0, 0, 0) := by decide +kernel
theorem s330_28 {L : Nat} {xs : Nat → Int32} {d x : Nat} {M : qxM} {st : List Value} {ls : qxL} : Rs L xs (d) 330 28 ls st M x = Rs L xs (d) 330 29 ls (.int (nI 1) :: st) M x := Rs_next c330_28 rfl
theorem c330_29 : qx_code 330 29 = some (29, .isub, 30, 0, 0, 0) := by decide +kernel
theorem s330_29 {L : Nat} {xs : Nat → Int32} {d x : Nat} {M : qxM} {st : List Value} {ls : qxL} {z y : Int32} : Rs L xs (d) 330 29 ls (.int y :: .int z :: st) M x = Rs L xs (d) 330 30 ls (.int (z - y) :: st) M x := Rs_next c330_29 rfl
theorem c330_30 : qx_code 330 30 = some (30, .putfield 191, 33, 8, 7, 1552) := by decide +kernel
theorem s330_30 {L : Nat} {xs : Nat → Int32} {d x : Nat} {M : qxM} {st : List Value} {ls : qxL} {t : Nat} {z : Int32} (hk : qx_kd t = 18) : Rs L xs (d) 330 30 ls (.int z :: .ref t :: st) M x = Rs L xs (d) 330 33 ls st (qx_up M t 7 z) x := Rs_when (cnd := qx_sh t = some (.inl 8) ∧ qx_fo 8 7 = none ∧ (qx_bf 8 7 = true → z = 0 ∨ z = 1)) ⟨qx_kd_obj (k := 8) (by decide) hk, rfl, fun h => nomatch h⟩ c330_30 rfl
theorem c330_33 : qx_code 330 33 = some (33, .aload_n 0, 34, 0, 0, 0) := by decide +kernel
theorem s330_33 {L : Nat} {xs : Nat → Int32} {d x : Nat} {M : qxM} {st : List Value} {z : Nat} : Rs L xs (d) 330 33 [some (.ref z)] st M x = Rs L xs (d) 330 34 [some (.ref z)] (.ref z :: st) M x := Rs_next c330_33 rfl
theorem c330_34 : qx_code 330 34 = some (34, .getfield 16, 37, 8, 3, 1548) := by decide +kernel
theorem s330_34 {L : Nat} {xs : Nat → Int32} {d x : Nat} {M : qxM} {st : List Value} {ls : qxL} {t : Nat} (hk : qx_kd t = 18) : Rs L xs (d) 330 34 ls (.ref t :: st) M x = Rs L xs (d) 330 37 ls (.ref (t + 3) :: st) M x := Rs_when (qx_kd_obj (k := 8) (by decide) hk) c330_34 rfl
theorem c330_37 : qx_code 330 37 = some (37, .aload_n 0, 38, 0, 0, 0) := by decide +kernel
theorem s330_37 {L : Nat} {xs : Nat → Int32} {d x : Nat} {M : qxM} {st : List Value} {z : Nat} : Rs L xs (d) 330 37 [some (.ref z)] st M x = Rs L xs (d) 330 38 [some (.ref z)] (.ref z :: st) M x := Rs_next c330_37 rfl
theorem c330_38 : qx_code 330 38 = some (38, .getfield 191, 41, 8, 7, 1552) := by decide +kernel
theorem s330_38 {L : Nat} {xs : Nat → Int32} {d x : Nat} {M : qxM} {st : List Value} {ls : qxL} {t : Nat} (hk : qx_kd t = 18) : Rs L xs (d) 330 38 ls (.ref t :: st) M x = Rs L xs (d) 330 41 ls (.int (M.1 t 7) :: st) M x := Rs_when (qx_kd_obj (k := 8) (by decide) hk) c330_38 rfl
theorem c330_41 : qx_code 330 41 = some (41, .sipush 335, 44, 0, 0, 0) := by decide +kernel
theorem s330_41 {L : Nat} {xs : Nat → Int32} {d x : Nat} {M : qxM} {st : List Value} {ls : qxL} : Rs L xs (d) 330 41 ls st M x = Rs L xs (d) 330 44 ls (.int (nI 335) :: st) M x := Rs_next c330_41 rfl
theorem c330_44 : qx_code 330 44 = some (44, .imul, 45, 0, 0, 0) := by decide +kernel
theorem s330_44 {L : Nat} {xs : Nat → Int32} {d x : Nat} {M : qxM} {st : List Value} {ls : qxL} {z y : Int32} : Rs L xs (d) 330 44 ls (.int y :: .int z :: st) M x = Rs L xs (d) 330 45 ls (.int (z * y) :: st) M x := Rs_next c330_44 rfl
theorem c330_45 : qx_code 330 45 = some (45, .aload_n 0, 46, 0, 0, 0) := by decide +kernel
theorem s330_45 {L : Nat} {xs : Nat → Int32} {d x : Nat} {M : qxM} {st : List Value} {z : Nat} : Rs L xs (d) 330 45 [some (.ref z)] st M x = Rs L xs (d) 330 46 [some (.ref z)] (.ref z :: st) M x := Rs_next c330_45 rfl
theorem c330_46 : qx_code 330 46 = some (46, .getfield 9, 49, 8, 1, 1546) := by decide +kernel
theorem s330_46 {L : Nat} {xs : Nat → Int32} {d x : Nat} {M : qxM} {st : List Value} {ls : qxL} {t : Nat} (hk : qx_kd t = 18) : Rs L xs (d) 330 46 ls (.ref t :: st) M x = Rs L xs (d) 330 49 ls (.ref (t + 1) :: st) M x := Rs_when (qx_kd_obj (k := 8) (by decide) hk) c330_46 rfl
theorem c330_49 : qx_code 330 49 = some (49, .iconst 0, 50, 0, 0, 0) := by decide +kernel
theorem s330_49 {L : Nat} {xs : Nat → Int32} {d x : Nat} {M : qxM} {st : List Value} {ls : qxL} : Rs L xs (d) 330 49 ls st M x = Rs L xs (d) 330 50 ls (.int (nI 0) :: st) M x := Rs_next c330_49 rfl
theorem c330_50 : qx_code 330 50 = some (50, .invokestatic 52, 53, 182, 4, 1652) := by decide +kernel
theorem s330_50 {L : Nat} {xs : Nat → Int32} {d x : Nat} {M : qxM} {st : List Value} {ls : qxL} {z0 : Nat} {z1 : Int32} {z2 : Nat} {z3 : Int32} (hs : st.length ≤ 4) : Rs L xs (d + 1) 330 50 ls (.int z3 :: .ref z2 :: .int z1 :: .ref z0 :: st) M x = (Rs L xs d 182 0 [some (.ref z0), some (.int z1), some (.ref z2), some (.int z3), none] [] M 0).bind (qx_kn L xs (d + 1) 330 50 53 182 ls st x) := by
  have h1 : qx_act L xs (qx_rt 330) (50, .invokestatic 52, 53, 182, 4, 1652) ls (.int z3 :: .ref z2 :: .int z1 :: .ref z0 :: st) M = if 4 ≤ (.int z3 :: .ref z2 :: .int z1 :: .ref z0 :: st).length ∧ st.length ≤ 4 then some (.inr (.inr (.inr (182, [.ref z0, .int z1, .ref z2, .int z3], st)))) else none := rfl
  rw [if_pos ⟨by simp [List.length_cons]; try omega, hs⟩] at h1
  exact Rs_call c330_50 h1 rfl
theorem c330_53 : qx_code 330 53 = some (53, .aload_n 0, 54, 0, 0, 0) := by decide +kernel
theorem s330_53 {L : Nat} {xs : Nat → Int32} {d x : Nat} {M : qxM} {st : List Value} {z : Nat} : Rs L xs (d) 330 53 [some (.ref z)] st M x = Rs L xs (d) 330 54 [some (.ref z)] (.ref z :: st) M x := Rs_next c330_53 rfl
theorem c330_54 : qx_code 330 54 = some (54, .getfield 191, 57, 8, 7, 1552) := by decide +kernel
theorem s330_54 {L : Nat} {xs : Nat → Int32} {d x : Nat} {M : qxM} {st : List Value} {ls : qxL} {t : Nat} (hk : qx_kd t = 18) : Rs L xs (d) 330 54 ls (.ref t :: st) M x = Rs L xs (d) 330 57 ls (.int (M.1 t 7) :: st) M x := Rs_when (qx_kd_obj (k := 8) (by decide) hk) c330_54 rfl
theorem c330_57 : qx_code 330 57 = some (57, .ireturn, 58, 0, 0, 0) := by decide +kernel
theorem s330_57 {L : Nat} {xs : Nat → Int32} {d x : Nat} {M : qxM} {ls : qxL} {z : Int32} : Rs L xs (d) 330 57 ls [.int z] M x = some (.inl (some (.int z)), M, x) := Rs_ret c330_57 rfl
theorem c331_0 : qx_code 331 0 = some (0, .aload_n 0, 1, 0, 0, 0) := by decide +kernel
theorem s331_0 {L : Nat} {xs : Nat → Int32} {d x : Nat} {M : qxM} {st : List Value} {z : Nat} : Rs L xs (d) 331 0 [some (.ref z)] st M x = Rs L xs (d) 331 1 [some (.ref z)] (.ref z :: st) M x := Rs_next c331_0 rfl
theorem c331_1 : qx_code 331 1 = some (1, .iconst 0, 2, 0, 0, 0) := by decide +kernel
theorem s331_1 {L : Nat} {xs : Nat → Int32} {d x : Nat} {M : qxM} {st : List Value} {ls : qxL} : Rs L xs (d) 331 1 ls st M x = Rs L xs (d) 331 2 ls (.int (nI 0) :: st) M x := Rs_next c331_1 rfl
theorem c331_2 : qx_code 331 2 = some (2, .putfield 46, 5, 8, 0, 1545) := by decide +kernel
theorem s331_2 {L : Nat} {xs : Nat → Int32} {d x : Nat} {M : qxM} {st : List Value} {ls : qxL} {t : Nat} {z : Int32} (hk : qx_kd t = 18) : Rs L xs (d) 331 2 ls (.int z :: .ref t :: st) M x = Rs L xs (d) 331 5 ls st (qx_up M t 0 z) x := Rs_when (cnd := qx_sh t = some (.inl 8) ∧ qx_fo 8 0 = none ∧ (qx_bf 8 0 = true → z = 0 ∨ z = 1)) ⟨qx_kd_obj (k := 8) (by decide) hk, rfl, fun h => nomatch h⟩ c331_2 rfl
theorem c331_5 : qx_code 331 5 = some (5, .aload_n 0, 6, 0, 0, 0) := by decide +kernel
theorem s331_5 {L : Nat} {xs : Nat → Int32} {d x : Nat} {M : qxM} {st : List Value} {z : Nat} : Rs L xs (d) 331 5 [some (.ref z)] st M x = Rs L xs (d) 331 6 [some (.ref z)] (.ref z :: st) M x := Rs_next c331_5 rfl
theorem c331_6 : qx_code 331 6 = some (6, .getfield 191, 9, 8, 7, 1552) := by decide +kernel
theorem s331_6 {L : Nat} {xs : Nat → Int32} {d x : Nat} {M : qxM} {st : List Value} {ls : qxL} {t : Nat} (hk : qx_kd t = 18) : Rs L xs (d) 331 6 ls (.ref t :: st) M x = Rs L xs (d) 331 9 ls (.int (M.1 t 7) :: st) M x := Rs_when (qx_kd_obj (k := 8) (by decide) hk) c331_6 rfl
theorem c331_9 : qx_code 331 9 = some (9, .ireturn, 10, 0, 0, 0) := by decide +kernel
theorem s331_9 {L : Nat} {xs : Nat → Int32} {d x : Nat} {M : qxM} {ls : qxL} {z : Int32} : Rs L xs (d) 331 9 ls [.int z] M x = some (.inl (some (.int z)), M, x) := Rs_ret c331_9 rfl
theorem c332_0 : qx_code 332 0 = some (0, .aload_n 0, 1, 0, 0, 0) := by decide +kernel
theorem s332_0 {L : Nat} {xs : Nat → Int32} {d x : Nat} {M : qxM} {st : List Value} {a1 : Option Value} {z : Nat} : Rs L xs (d) 332 0 [some (.ref z), a1] st M x = Rs L xs (d) 332 1 [some (.ref z), a1] (.ref z :: st) M x := Rs_next c332_0 rfl
theorem c332_1 : qx_code 332 1 = some (1, .aload_n 0, 2, 0, 0, 0) := by decide +kernel
theorem s332_1 {L : Nat} {xs : Nat → Int32} {d x : Nat} {M : qxM} {st : List Value} {a1 : Option Value} {z : Nat} : Rs L xs (d) 332 1 [some (.ref z), a1] st M x = Rs L xs (d) 332 2 [some (.ref z), a1] (.ref z :: st) M x := Rs_next c332_1 rfl
theorem c332_2 : qx_code 332 2 = some (2, .getfield 187, 5, 8, 6, 1551) := by decide +kernel
theorem s332_2 {L : Nat} {xs : Nat → Int32} {d x : Nat} {M : qxM} {st : List Value} {ls : qxL} {t : Nat} (hk : qx_kd t = 18) : Rs L xs (d) 332 2 ls (.ref t :: st) M x = Rs L xs (d) 332 5 ls (.int (M.1 t 6) :: st) M x := Rs_when (qx_kd_obj (k := 8) (by decide) hk) c332_2 rfl
theorem c332_5 : qx_code 332 5 = some (5, .iload_n 1, 6, 0, 0, 0) := by decide +kernel
theorem s332_5 {L : Nat} {xs : Nat → Int32} {d x : Nat} {M : qxM} {st : List Value} {a0 : Option Value} {z : Int32} : Rs L xs (d) 332 5 [a0, some (.int z)] st M x = Rs L xs (d) 332 6 [a0, some (.int z)] (.int z :: st) M x := Rs_next c332_5 rfl
theorem c332_6 : qx_code 332 6 = some (6, .iconst 0, 7, 0, 0, 0) := by decide +kernel
theorem s332_6 {L : Nat} {xs : Nat → Int32} {d x : Nat} {M : qxM} {st : List Value} {ls : qxL} : Rs L xs (d) 332 6 ls st M x = Rs L xs (d) 332 7 ls (.int (nI 0) :: st) M x := Rs_next c332_6 rfl
theorem c332_7 : qx_code 332 7 = some (7, .iconst 1, 8, 0, 0, 0) := by decide +kernel
theorem s332_7 {L : Nat} {xs : Nat → Int32} {d x : Nat} {M : qxM} {st : List Value} {ls : qxL} : Rs L xs (d) 332 7 ls st M x = Rs L xs (d) 332 8 ls (.int (nI 1) :: st) M x := Rs_next c332_7 rfl
theorem c332_8 : qx_code 332 8 = some (8, .invokestatic 69, 11, 178, 3, 1641) := by decide +kernel
theorem s332_8 {L : Nat} {xs : Nat → Int32} {d x : Nat} {M : qxM} {st : List Value} {ls : qxL} {z0 : Int32} {z1 : Int32} {z2 : Int32} (hs : st.length ≤ 4) : Rs L xs (d + 1) 332 8 ls (.int z2 :: .int z1 :: .int z0 :: st) M x = (Rs L xs d 178 0 [some (.int z0), some (.int z1), some (.int z2)] [] M 0).bind (qx_kn L xs (d + 1) 332 8 11 178 ls st x) := by
  have h1 : qx_act L xs (qx_rt 332) (8, .invokestatic 69, 11, 178, 3, 1641) ls (.int z2 :: .int z1 :: .int z0 :: st) M = if 3 ≤ (.int z2 :: .int z1 :: .int z0 :: st).length ∧ st.length ≤ 4 then some (.inr (.inr (.inr (178, [.int z0, .int z1, .int z2], st)))) else none := rfl
  rw [if_pos ⟨by simp [List.length_cons]; try omega, hs⟩] at h1
  exact Rs_call c332_8 h1 rfl
theorem c332_11 : qx_code 332 11 = some (11, .invokevirtual 216, 14, 181, 3, 1773) := by decide +kernel
theorem s332_11 {L : Nat} {xs : Nat → Int32} {d x : Nat} {M : qxM} {st : List Value} {ls : qxL} {t : Nat} {z0 : Int32} {z1 : Int32} (hk : qx_kd t = 18) (hs : st.length ≤ 4) : Rs L xs (d + 1) 332 11 ls (.int z1 :: .int z0 :: .ref t :: st) M x = (Rs L xs d 181 0 [some (.ref t), some (.int z0), some (.int z1)] [] M 0).bind (qx_kn L xs (d + 1) 332 11 14 181 ls st x) := by
  have h1 : qx_act L xs (qx_rt 332) (11, .invokevirtual 216, 14, 181, 3, 1773) ls (.int z1 :: .int z0 :: .ref t :: st) M = if 3 ≤ (.int z1 :: .int z0 :: .ref t :: st).length ∧ st.length ≤ 4 then some (.inr (.inr (.inr (181, [.ref t, .int z0, .int z1], st)))) else none := rfl
  rw [if_pos ⟨by simp [List.length_cons]; try omega, hs⟩] at h1
  have h2 := qx_kd_obj (k := 8) (by decide) hk
  exact Rs_call c332_11 h1 (by rw [show qx_args 181 [.ref t, .int z0, .int z1] = decide (qx_sh t = some (.inl 8)) from rfl]; exact decide_eq_true h2)
theorem c332_14 : qx_code 332 14 = some (14, .ifCond .ne 5, 17, 19, 0, 0) := by decide +kernel
theorem s332_14 {L : Nat} {xs : Nat → Int32} {d x : Nat} {M : qxM} {st : List Value} {ls : qxL} {z : Int32} : Rs L xs (d) 332 14 ls (.int z :: st) M x = if z = 0 then Rs L xs (d) 332 17 ls st M x else Rs L xs (d) 332 19 ls st M x := Rs_ite c332_14 rfl
theorem c332_17 : qx_code 332 17 = some (17, .iconst 0, 18, 0, 0, 0) := by decide +kernel
theorem s332_17 {L : Nat} {xs : Nat → Int32} {d x : Nat} {M : qxM} {st : List Value} {ls : qxL} : Rs L xs (d) 332 17 ls st M x = Rs L xs (d) 332 18 ls (.int (nI 0) :: st) M x := Rs_next c332_17 rfl
theorem c332_18 : qx_code 332 18 = some (18, .ireturn, 19, 0, 0, 0) := by decide +kernel
theorem s332_18 {L : Nat} {xs : Nat → Int32} {d x : Nat} {M : qxM} {ls : qxL} {z : Int32} : Rs L xs (d) 332 18 ls [.int z] M x = some (.inl (some (.int z)), M, x) := Rs_ret c332_18 rfl
theorem c332_19 : qx_code 332 19 = some (19, .aload_n 0, 20, 0, 0, 0) := by decide +kernel
theorem s332_19 {L : Nat} {xs : Nat → Int32} {d x : Nat} {M : qxM} {st : List Value} {a1 : Option Value} {z : Nat} : Rs L xs (d) 332 19 [some (.ref z), a1] st M x = Rs L xs (d) 332 20 [some (.ref z), a1] (.ref z :: st) M x := Rs_next c332_19 rfl
theorem c332_20 : qx_code 332 20 = some (20, .getfield 9, 23, 8, 1, 1546) := by decide +kernel
theorem s332_20 {L : Nat} {xs : Nat → Int32} {d x : Nat} {M : qxM} {st : List Value} {ls : qxL} {t : Nat} (hk : qx_kd t = 18) : Rs L xs (d) 332 20 ls (.ref t :: st) M x = Rs L xs (d) 332 23 ls (.ref (t + 1) :: st) M x := Rs_when (qx_kd_obj (k := 8) (by decide) hk) c332_20 rfl
theorem c332_23 : qx_code 332 23 = some (23, .iconst 0, 24, 0, 0, 0) := by decide +kernel
theorem s332_23 {L : Nat} {xs : Nat → Int32} {d x : Nat} {M : qxM} {st : List Value} {ls : qxL} : Rs L xs (d) 332 23 ls st M x = Rs L xs (d) 332 24 ls (.int (nI 0) :: st) M x := Rs_next c332_23 rfl
theorem c332_24 : qx_code 332 24 = some (24, .aload_n 0, 25, 0, 0, 0) := by decide +kernel
theorem s332_24 {L : Nat} {xs : Nat → Int32} {d x : Nat} {M : qxM} {st : List Value} {a1 : Option Value} {z : Nat} : Rs L xs (d) 332 24 [some (.ref z), a1] st M x = Rs L xs (d) 332 25 [some (.ref z), a1] (.ref z :: st) M x := Rs_next c332_24 rfl
theorem c332_25 : qx_code 332 25 = some (25, .getfield 19, 28, 8, 4, 1549) := by decide +kernel
theorem s332_25 {L : Nat} {xs : Nat → Int32} {d x : Nat} {M : qxM} {st : List Value} {ls : qxL} {t : Nat} (hk : qx_kd t = 18) : Rs L xs (d) 332 25 ls (.ref t :: st) M x = Rs L xs (d) 332 28 ls (.ref (t + 4) :: st) M x := Rs_when (qx_kd_obj (k := 8) (by decide) hk) c332_25 rfl
theorem c332_28 : qx_code 332 28 = some (28, .iload_n 1, 29, 0, 0, 0) := by decide +kernel
theorem s332_28 {L : Nat} {xs : Nat → Int32} {d x : Nat} {M : qxM} {st : List Value} {a0 : Option Value} {z : Int32} : Rs L xs (d) 332 28 [a0, some (.int z)] st M x = Rs L xs (d) 332 29 [a0, some (.int z)] (.int z :: st) M x := Rs_next c332_28 rfl
theorem c332_29 : qx_code 332 29 = some (29, .sipush 335, 32, 0, 0, 0) := by decide +kernel
theorem s332_29 {L : Nat} {xs : Nat → Int32} {d x : Nat} {M : qxM} {st : List Value} {ls : qxL} : Rs L xs (d) 332 29 ls st M x = Rs L xs (d) 332 32 ls (.int (nI 335) :: st) M x := Rs_next c332_29 rfl
theorem c332_32 : qx_code 332 32 = some (32, .imul, 33, 0, 0, 0) := by decide +kernel
theorem s332_32 {L : Nat} {xs : Nat → Int32} {d x : Nat} {M : qxM} {st : List Value} {ls : qxL} {z y : Int32} : Rs L xs (d) 332 32 ls (.int y :: .int z :: st) M x = Rs L xs (d) 332 33 ls (.int (z * y) :: st) M x := Rs_next c332_32 rfl
theorem c332_33 : qx_code 332 33 = some (33, .invokestatic 52, 36, 182, 4, 1652) := by decide +kernel
theorem s332_33 {L : Nat} {xs : Nat → Int32} {d x : Nat} {M : qxM} {st : List Value} {ls : qxL} {z0 : Nat} {z1 : Int32} {z2 : Nat} {z3 : Int32} (hs : st.length ≤ 4) : Rs L xs (d + 1) 332 33 ls (.int z3 :: .ref z2 :: .int z1 :: .ref z0 :: st) M x = (Rs L xs d 182 0 [some (.ref z0), some (.int z1), some (.ref z2), some (.int z3), none] [] M 0).bind (qx_kn L xs (d + 1) 332 33 36 182 ls st x) := by
  have h1 : qx_act L xs (qx_rt 332) (33, .invokestatic 52, 36, 182, 4, 1652) ls (.int z3 :: .ref z2 :: .int z1 :: .ref z0 :: st) M = if 4 ≤ (.int z3 :: .ref z2 :: .int z1 :: .ref z0 :: st).length ∧ st.length ≤ 4 then some (.inr (.inr (.inr (182, [.ref z0, .int z1, .ref z2, .int z3], st)))) else none := rfl
  rw [if_pos ⟨by simp [List.length_cons]; try omega, hs⟩] at h1
  exact Rs_call c332_33 h1 rfl
theorem c332_36 : qx_code 332 36 = some (36, .aload_n 0, 37, 0, 0, 0) := by decide +kernel
theorem s332_36 {L : Nat} {xs : Nat → Int32} {d x : Nat} {M : qxM} {st : List Value} {a1 : Option Value} {z : Nat} : Rs L xs (d) 332 36 [some (.ref z), a1] st M x = Rs L xs (d) 332 37 [some (.ref z), a1] (.ref z :: st) M x := Rs_next c332_36 rfl
theorem c332_37 : qx_code 332 37 = some (37, .getfield 22, 40, 8, 5, 1550) := by decide +kernel
theorem s332_37 {L : Nat} {xs : Nat → Int32} {d x : Nat} {M : qxM} {st : List Value} {ls : qxL} {t : Nat} (hk : qx_kd t = 18) : Rs L xs (d) 332 37 ls (.ref t :: st) M x = Rs L xs (d) 332 40 ls (.ref (t + 5) :: st) M x := Rs_when (qx_kd_obj (k := 8) (by decide) hk) c332_37 rfl
theorem c332_40 : qx_code 332 40 = some (40, .iload_n 1, 41, 0, 0, 0) := by decide +kernel
theorem s332_40 {L : Nat} {xs : Nat → Int32} {d x : Nat} {M : qxM} {st : List Value} {a0 : Option Value} {z : Int32} : Rs L xs (d) 332 40 [a0, some (.int z)] st M x = Rs L xs (d) 332 41 [a0, some (.int z)] (.int z :: st) M x := Rs_next c332_40 rfl
theorem c332_41 : qx_code 332 41 = some (41, .iconst 1, 42, 0, 0, 0) := by decide +kernel
theorem s332_41 {L : Nat} {xs : Nat → Int32} {d x : Nat} {M : qxM} {st : List Value} {ls : qxL} : Rs L xs (d) 332 41 ls st M x = Rs L xs (d) 332 42 ls (.int (nI 1) :: st) M x := Rs_next c332_41 rfl
theorem c332_42 : qx_code 332 42 = some (42, .bastore, 43, 0, 0, 0) := by decide +kernel
theorem s332_42 {L : Nat} {xs : Nat → Int32} {d x : Nat} {M : qxM} {st : List Value} {ls : qxL} {t : Nat} {j : Int32} {z : Int32} (hk : qx_kd t = 1) (hj : qx_ib j (qx_ln t) = true) : Rs L xs (d) 332 42 ls (.int z :: .int j :: .ref t :: st) M x = Rs L xs (d) 332 43 ls st (qx_up M t j.toNatClampNeg z.toInt8.toInt32) x := by
  have h1 := qx_kd_row (k := 1) (by decide) hk
  exact Rs_unless (qx_ib_not hj) c332_42 (by unfold qx_act; dsimp only; rw [h1]; rfl)
theorem s332_42z {L : Nat} {xs : Nat → Int32} {d x : Nat} {M : qxM} {st : List Value} {ls : qxL} {t : Nat} {j : Int32} {z : Int32} (hk : qx_kd t = 2) (hj : qx_ib j (qx_ln t) = true) (h01 : z = 0 ∨ z = 1) : Rs L xs (d) 332 42 ls (.int z :: .int j :: .ref t :: st) M x = Rs L xs (d) 332 43 ls st (qx_up M t j.toNatClampNeg z) x := by
  have h1 := qx_kd_row (k := 2) (by decide) hk
  exact Rs_unless (qx_ib_not hj) c332_42 (by unfold qx_act; dsimp only; rw [h1]; first | (rw [if_pos h01]; rfl) | (simp only [if_pos h01]; rfl) | rfl)
theorem c332_43 : qx_code 332 43 = some (43, .aload_n 0, 44, 0, 0, 0) := by decide +kernel
theorem s332_43 {L : Nat} {xs : Nat → Int32} {d x : Nat} {M : qxM} {st : List Value} {a1 : Option Value} {z : Nat} : Rs L xs (d) 332 43 [some (.ref z), a1] st M x = Rs L xs (d) 332 44 [some (.ref z), a1] (.ref z :: st) M x := Rs_next c332_43 rfl
theorem c332_44 : qx_code 332 44 = some (44, .invokevirtual 223, 47, 224, 1, 1791) := by decide +kernel
theorem s332_44 {L : Nat} {xs : Nat → Int32} {d x : Nat} {M : qxM} {st : List Value} {ls : qxL} {t : Nat} (hk : qx_kd t = 18) (hs : st.length ≤ 4) : Rs L xs (d + 1) 332 44 ls (.ref t :: st) M x = (Rs L xs d 224 0 [some (.ref t)] [] M 0).bind (qx_kn L xs (d + 1) 332 44 47 224 ls st x) := by
  have h1 : qx_act L xs (qx_rt 332) (44, .invokevirtual 223, 47, 224, 1, 1791) ls (.ref t :: st) M = if 1 ≤ (.ref t :: st).length ∧ st.length ≤ 4 then some (.inr (.inr (.inr (224, [.ref t], st)))) else none := rfl
  rw [if_pos ⟨by simp [List.length_cons]; try omega, hs⟩] at h1
  have h2 := qx_kd_obj (k := 8) (by decide) hk
  exact Rs_call c332_44 h1 (by rw [show qx_args 224 [.ref t] = decide (qx_sh t = some (.inl 8)) from rfl]; exact decide_eq_true h2)
theorem c332_47 : qx_code 332 47 = some (47, .ireturn, 48, 0, 0, 0) := by decide +kernel
theorem s332_47 {L : Nat} {xs : Nat → Int32} {d x : Nat} {M : qxM} {ls : qxL} {z : Int32} : Rs L xs (d) 332 47 ls [.int z] M x = some (.inl (some (.int z)), M, x) := Rs_ret c332_47 rfl
theorem c333_0 : qx_code 333 0 = some (0, .iload_n 1, 1, 0, 0, 0) := by decide +kernel
theorem s333_0 {L : Nat} {xs : Nat → Int32} {d x : Nat} {M : qxM} {st : List Value} {a0 a2 : Option Value} {z : Int32} : Rs L xs (d) 333 0 [a0, some (.int z), a2] st M x = Rs L xs (d) 333 1 [a0, some (.int z), a2] (.int z :: st) M x := Rs_next c333_0 rfl
theorem c333_1 : qx_code 333 1 = some (1, .iconst 0, 2, 0, 0, 0) := by decide +kernel
theorem s333_1 {L : Nat} {xs : Nat → Int32} {d x : Nat} {M : qxM} {st : List Value} {ls : qxL} : Rs L xs (d) 333 1 ls st M x = Rs L xs (d) 333 2 ls (.int (nI 0) :: st) M x := Rs_next c333_1 rfl
theorem c333_2 : qx_code 333 2 = some (2, .iconst 1, 3, 0, 0, 0) := by decide +kernel
theorem s333_2 {L : Nat} {xs : Nat → Int32} {d x : Nat} {M : qxM} {st : List Value} {ls : qxL} : Rs L xs (d) 333 2 ls st M x = Rs L xs (d) 333 3 ls (.int (nI 1) :: st) M x := Rs_next c333_2 rfl
theorem c333_3 : qx_code 333 3 = some (3, .invokestatic 69, 6, 178, 3, 1641) := by decide +kernel
theorem s333_3 {L : Nat} {xs : Nat → Int32} {d x : Nat} {M : qxM} {st : List Value} {ls : qxL} {z0 : Int32} {z1 : Int32} {z2 : Int32} (hs : st.length ≤ 4) : Rs L xs (d + 1) 333 3 ls (.int z2 :: .int z1 :: .int z0 :: st) M x = (Rs L xs d 178 0 [some (.int z0), some (.int z1), some (.int z2)] [] M 0).bind (qx_kn L xs (d + 1) 333 3 6 178 ls st x) := by
  have h1 : qx_act L xs (qx_rt 333) (3, .invokestatic 69, 6, 178, 3, 1641) ls (.int z2 :: .int z1 :: .int z0 :: st) M = if 3 ≤ (.int z2 :: .int z1 :: .int z0 :: st).length ∧ st.length ≤ 4 then some (.inr (.inr (.inr (178, [.int z0, .int z1, .int z2], st)))) else none := rfl
  rw [if_pos ⟨by simp [List.length_cons]; try omega, hs⟩] at h1
  exact Rs_call c333_3 h1 rfl
theorem c333_6 : qx_code 333 6 = some (6, .istore_n 2, 7, 0, 0, 0) := by decide +kernel
theorem s333_6i {L : Nat} {xs : Nat → Int32} {d x : Nat} {M : qxM} {st : List Value} {a0 a2 : Option Value} {z : Int32} {y : Int32} : Rs L xs (d) 333 6 [a0, some (.int y), a2] (.int z :: st) M x = Rs L xs (d) 333 7 [a0, some (.int y), some (.int z)] st M x := Rs_next c333_6 rfl
theorem s333_6r {L : Nat} {xs : Nat → Int32} {d x : Nat} {M : qxM} {st : List Value} {a0 a2 : Option Value} {z : Int32} {y : Nat} : Rs L xs (d) 333 6 [a0, some (.ref y), a2] (.int z :: st) M x = Rs L xs (d) 333 7 [a0, some (.ref y), some (.int z)] st M x := Rs_next c333_6 rfl
theorem s333_6n {L : Nat} {xs : Nat → Int32} {d x : Nat} {M : qxM} {st : List Value} {a0 a2 : Option Value} {z : Int32} : Rs L xs (d) 333 6 [a0, none, a2] (.int z :: st) M x = Rs L xs (d) 333 7 [a0, none, some (.int z)] st M x := Rs_next c333_6 rfl
theorem c333_7 : qx_code 333 7 = some (7, .aload_n 0, 8, 0, 0, 0) := by decide +kernel
theorem s333_7 {L : Nat} {xs : Nat → Int32} {d x : Nat} {M : qxM} {st : List Value} {a1 a2 : Option Value} {z : Nat} : Rs L xs (d) 333 7 [some (.ref z), a1, a2] st M x = Rs L xs (d) 333 8 [some (.ref z), a1, a2] (.ref z :: st) M x := Rs_next c333_7 rfl
theorem c333_8 : qx_code 333 8 = some (8, .iload_n 2, 9, 0, 0, 0) := by decide +kernel
theorem s333_8 {L : Nat} {xs : Nat → Int32} {d x : Nat} {M : qxM} {st : List Value} {a0 a1 : Option Value} {z : Int32} : Rs L xs (d) 333 8 [a0, a1, some (.int z)] st M x = Rs L xs (d) 333 9 [a0, a1, some (.int z)] (.int z :: st) M x := Rs_next c333_8 rfl
theorem c333_9 : qx_code 333 9 = some (9, .iload_n 2, 10, 0, 0, 0) := by decide +kernel
theorem s333_9 {L : Nat} {xs : Nat → Int32} {d x : Nat} {M : qxM} {st : List Value} {a0 a1 : Option Value} {z : Int32} : Rs L xs (d) 333 9 [a0, a1, some (.int z)] st M x = Rs L xs (d) 333 10 [a0, a1, some (.int z)] (.int z :: st) M x := Rs_next c333_9 rfl
theorem c333_10 : qx_code 333 10 = some (10, .ifCond .eq 16, 13, 26, 0, 0) := by decide +kernel
theorem s333_10 {L : Nat} {xs : Nat → Int32} {d x : Nat} {M : qxM} {st : List Value} {ls : qxL} {z : Int32} : Rs L xs (d) 333 10 ls (.int z :: st) M x = if z = 0 then Rs L xs (d) 333 26 ls st M x else Rs L xs (d) 333 13 ls st M x := Rs_ite c333_10 rfl
theorem c333_13 : qx_code 333 13 = some (13, .aload_n 0, 14, 0, 0, 0) := by decide +kernel
theorem s333_13 {L : Nat} {xs : Nat → Int32} {d x : Nat} {M : qxM} {st : List Value} {a1 a2 : Option Value} {z : Nat} : Rs L xs (d) 333 13 [some (.ref z), a1, a2] st M x = Rs L xs (d) 333 14 [some (.ref z), a1, a2] (.ref z :: st) M x := Rs_next c333_13 rfl
theorem c333_14 : qx_code 333 14 = some (14, .getfield 22, 17, 8, 5, 1550) := by decide +kernel
theorem s333_14 {L : Nat} {xs : Nat → Int32} {d x : Nat} {M : qxM} {st : List Value} {ls : qxL} {t : Nat} (hk : qx_kd t = 18) : Rs L xs (d) 333 14 ls (.ref t :: st) M x = Rs L xs (d) 333 17 ls (.ref (t + 5) :: st) M x := Rs_when (qx_kd_obj (k := 8) (by decide) hk) c333_14 rfl
theorem c333_17 : qx_code 333 17 = some (17, .iload_n 1, 18, 0, 0, 0) := by decide +kernel
theorem s333_17 {L : Nat} {xs : Nat → Int32} {d x : Nat} {M : qxM} {st : List Value} {a0 a2 : Option Value} {z : Int32} : Rs L xs (d) 333 17 [a0, some (.int z), a2] st M x = Rs L xs (d) 333 18 [a0, some (.int z), a2] (.int z :: st) M x := Rs_next c333_17 rfl
theorem c333_18 : qx_code 333 18 = some (18, .baload, 19, 0, 0, 0) := by decide +kernel
theorem s333_18 {L : Nat} {xs : Nat → Int32} {d x : Nat} {M : qxM} {st : List Value} {ls : qxL} {t : Nat} {j : Int32} (hk : qx_kd t = 1) (hj : qx_ib j (qx_ln t) = true) : Rs L xs (d) 333 18 ls (.int j :: .ref t :: st) M x = Rs L xs (d) 333 19 ls (.int (M.1 t j.toNatClampNeg) :: st) M x := by
  have h1 := qx_kd_row (k := 1) (by decide) hk
  exact Rs_unless (qx_ib_not hj) c333_18 (by unfold qx_act; dsimp only; rw [h1]; rfl)
theorem s333_18z {L : Nat} {xs : Nat → Int32} {d x : Nat} {M : qxM} {st : List Value} {ls : qxL} {t : Nat} {j : Int32} (hk : qx_kd t = 2) (hj : qx_ib j (qx_ln t) = true) : Rs L xs (d) 333 18 ls (.int j :: .ref t :: st) M x = Rs L xs (d) 333 19 ls (.int (M.1 t j.toNatClampNeg) :: st) M x := by
  have h1 := qx_kd_row (k := 2) (by decide) hk
  exact Rs_unless (qx_ib_not hj) c333_18 (by unfold qx_act; dsimp only; rw [h1]; rfl)
theorem c333_19 : qx_code 333 19 = some (19, .ifCond .eq 7, 22, 26, 0, 0) := by decide +kernel
theorem s333_19 {L : Nat} {xs : Nat → Int32} {d x : Nat} {M : qxM} {st : List Value} {ls : qxL} {z : Int32} : Rs L xs (d) 333 19 ls (.int z :: st) M x = if z = 0 then Rs L xs (d) 333 26 ls st M x else Rs L xs (d) 333 22 ls st M x := Rs_ite c333_19 rfl
theorem c333_22 : qx_code 333 22 = some (22, .iconst 1, 23, 0, 0, 0) := by decide +kernel
theorem s333_22 {L : Nat} {xs : Nat → Int32} {d x : Nat} {M : qxM} {st : List Value} {ls : qxL} : Rs L xs (d) 333 22 ls st M x = Rs L xs (d) 333 23 ls (.int (nI 1) :: st) M x := Rs_next c333_22 rfl
theorem c333_23 : qx_code 333 23 = some (23, .goto 4, 26, 27, 0, 0) := by decide +kernel
theorem s333_23 {L : Nat} {xs : Nat → Int32} {d x : Nat} {M : qxM} {st : List Value} {ls : qxL} : Rs L xs (d) 333 23 ls st M x = Rs L xs (d) 333 27 ls st M x := Rs_next c333_23 rfl
theorem c333_26 : qx_code 333 26 = some (26, .iconst 0, 27, 0, 0, 0) := by decide +kernel
theorem s333_26 {L : Nat} {xs : Nat → Int32} {d x : Nat} {M : qxM} {st : List Value} {ls : qxL} : Rs L xs (d) 333 26 ls st M x = Rs L xs (d) 333 27 ls (.int (nI 0) :: st) M x := Rs_next c333_26 rfl
theorem c333_27 : qx_code 333 27 = some (27, .invokevirtual 216, 30, 181, 3, 1773) := by decide +kernel
theorem s333_27 {L : Nat} {xs : Nat → Int32} {d x : Nat} {M : qxM} {st : List Value} {ls : qxL} {t : Nat} {z0 : Int32} {z1 : Int32} (hk : qx_kd t = 18) (hs : st.length ≤ 4) : Rs L xs (d + 1) 333 27 ls (.int z1 :: .int z0 :: .ref t :: st) M x = (Rs L xs d 181 0 [some (.ref t), some (.int z0), some (.int z1)] [] M 0).bind (qx_kn L xs (d + 1) 333 27 30 181 ls st x) := by
  have h1 : qx_act L xs (qx_rt 333) (27, .invokevirtual 216, 30, 181, 3, 1773) ls (.int z1 :: .int z0 :: .ref t :: st) M = if 3 ≤ (.int z1 :: .int z0 :: .ref t :: st).length ∧ st.length ≤ 4 then some (.inr (.inr (.inr (181, [.ref t, .int z0, .int z1], st)))) else none := rfl
  rw [if_pos ⟨by simp [List.length_cons]; try omega, hs⟩] at h1
  have h2 := qx_kd_obj (k := 8) (by decide) hk
  exact Rs_call c333_27 h1 (by rw [show qx_args 181 [.ref t, .int z0, .int z1] = decide (qx_sh t = some (.inl 8)) from rfl]; exact decide_eq_true h2)
theorem c333_30 : qx_code 333 30 = some (30, .ifCond .ne 5, 33, 35, 0, 0) := by decide +kernel
theorem s333_30 {L : Nat} {xs : Nat → Int32} {d x : Nat} {M : qxM} {st : List Value} {ls : qxL} {z : Int32} : Rs L xs (d) 333 30 ls (.int z :: st) M x = if z = 0 then Rs L xs (d) 333 33 ls st M x else Rs L xs (d) 333 35 ls st M x := Rs_ite c333_30 rfl
theorem c333_33 : qx_code 333 33 = some (33, .iconst 0, 34, 0, 0, 0) := by decide +kernel
theorem s333_33 {L : Nat} {xs : Nat → Int32} {d x : Nat} {M : qxM} {st : List Value} {ls : qxL} : Rs L xs (d) 333 33 ls st M x = Rs L xs (d) 333 34 ls (.int (nI 0) :: st) M x := Rs_next c333_33 rfl
theorem c333_34 : qx_code 333 34 = some (34, .ireturn, 35, 0, 0, 0) := by decide +kernel
theorem s333_34 {L : Nat} {xs : Nat → Int32} {d x : Nat} {M : qxM} {ls : qxL} {z : Int32} : Rs L xs (d) 333 34 ls [.int z] M x = some (.inl (some (.int z)), M, x) := Rs_ret c333_34 rfl
theorem c333_35 : qx_code 333 35 = some (35, .aload_n 0, 36, 0, 0, 0) := by decide +kernel
theorem s333_35 {L : Nat} {xs : Nat → Int32} {d x : Nat} {M : qxM} {st : List Value} {a1 a2 : Option Value} {z : Nat} : Rs L xs (d) 333 35 [some (.ref z), a1, a2] st M x = Rs L xs (d) 333 36 [some (.ref z), a1, a2] (.ref z :: st) M x := Rs_next c333_35 rfl
theorem c333_36 : qx_code 333 36 = some (36, .getfield 19, 39, 8, 4, 1549) := by decide +kernel
theorem s333_36 {L : Nat} {xs : Nat → Int32} {d x : Nat} {M : qxM} {st : List Value} {ls : qxL} {t : Nat} (hk : qx_kd t = 18) : Rs L xs (d) 333 36 ls (.ref t :: st) M x = Rs L xs (d) 333 39 ls (.ref (t + 4) :: st) M x := Rs_when (qx_kd_obj (k := 8) (by decide) hk) c333_36 rfl
theorem c333_39 : qx_code 333 39 = some (39, .iload_n 1, 40, 0, 0, 0) := by decide +kernel
theorem s333_39 {L : Nat} {xs : Nat → Int32} {d x : Nat} {M : qxM} {st : List Value} {a0 a2 : Option Value} {z : Int32} : Rs L xs (d) 333 39 [a0, some (.int z), a2] st M x = Rs L xs (d) 333 40 [a0, some (.int z), a2] (.int z :: st) M x := Rs_next c333_39 rfl
theorem c333_40 : qx_code 333 40 = some (40, .sipush 335, 43, 0, 0, 0) := by decide +kernel
theorem s333_40 {L : Nat} {xs : Nat → Int32} {d x : Nat} {M : qxM} {st : List Value} {ls : qxL} : Rs L xs (d) 333 40 ls st M x = Rs L xs (d) 333 43 ls (.int (nI 335) :: st) M x := Rs_next c333_40 rfl
theorem c333_43 : qx_code 333 43 = some (43, .imul, 44, 0, 0, 0) := by decide +kernel
theorem s333_43 {L : Nat} {xs : Nat → Int32} {d x : Nat} {M : qxM} {st : List Value} {ls : qxL} {z y : Int32} : Rs L xs (d) 333 43 ls (.int y :: .int z :: st) M x = Rs L xs (d) 333 44 ls (.int (z * y) :: st) M x := Rs_next c333_43 rfl
theorem c333_44 : qx_code 333 44 = some (44, .aload_n 0, 45, 0, 0, 0) := by decide +kernel
theorem s333_44 {L : Nat} {xs : Nat → Int32} {d x : Nat} {M : qxM} {st : List Value} {a1 a2 : Option Value} {z : Nat} : Rs L xs (d) 333 44 [some (.ref z), a1, a2] st M x = Rs L xs (d) 333 45 [some (.ref z), a1, a2] (.ref z :: st) M x := Rs_next c333_44 rfl
theorem c333_45 : qx_code 333 45 = some (45, .getfield 9, 48, 8, 1, 1546) := by decide +kernel
theorem s333_45 {L : Nat} {xs : Nat → Int32} {d x : Nat} {M : qxM} {st : List Value} {ls : qxL} {t : Nat} (hk : qx_kd t = 18) : Rs L xs (d) 333 45 ls (.ref t :: st) M x = Rs L xs (d) 333 48 ls (.ref (t + 1) :: st) M x := Rs_when (qx_kd_obj (k := 8) (by decide) hk) c333_45 rfl
theorem c333_48 : qx_code 333 48 = some (48, .iconst 0, 49, 0, 0, 0) := by decide +kernel
theorem s333_48 {L : Nat} {xs : Nat → Int32} {d x : Nat} {M : qxM} {st : List Value} {ls : qxL} : Rs L xs (d) 333 48 ls st M x = Rs L xs (d) 333 49 ls (.int (nI 0) :: st) M x := Rs_next c333_48 rfl
theorem c333_49 : qx_code 333 49 = some (49, .invokestatic 52, 52, 182, 4, 1652) := by decide +kernel
theorem s333_49 {L : Nat} {xs : Nat → Int32} {d x : Nat} {M : qxM} {st : List Value} {ls : qxL} {z0 : Nat} {z1 : Int32} {z2 : Nat} {z3 : Int32} (hs : st.length ≤ 4) : Rs L xs (d + 1) 333 49 ls (.int z3 :: .ref z2 :: .int z1 :: .ref z0 :: st) M x = (Rs L xs d 182 0 [some (.ref z0), some (.int z1), some (.ref z2), some (.int z3), none] [] M 0).bind (qx_kn L xs (d + 1) 333 49 52 182 ls st x) := by
  have h1 : qx_act L xs (qx_rt 333) (49, .invokestatic 52, 52, 182, 4, 1652) ls (.int z3 :: .ref z2 :: .int z1 :: .ref z0 :: st) M = if 4 ≤ (.int z3 :: .ref z2 :: .int z1 :: .ref z0 :: st).length ∧ st.length ≤ 4 then some (.inr (.inr (.inr (182, [.ref z0, .int z1, .ref z2, .int z3], st)))) else none := rfl
  rw [if_pos ⟨by simp [List.length_cons]; try omega, hs⟩] at h1
  exact Rs_call c333_49 h1 rfl
theorem c333_52 : qx_code 333 52 = some (52, .aload_n 0, 53, 0, 0, 0) := by decide +kernel
theorem s333_52 {L : Nat} {xs : Nat → Int32} {d x : Nat} {M : qxM} {st : List Value} {a1 a2 : Option Value} {z : Nat} : Rs L xs (d) 333 52 [some (.ref z), a1, a2] st M x = Rs L xs (d) 333 53 [some (.ref z), a1, a2] (.ref z :: st) M x := Rs_next c333_52 rfl
theorem c333_53 : qx_code 333 53 = some (53, .iconst 0, 54, 0, 0, 0) := by decide +kernel
theorem s333_53 {L : Nat} {xs : Nat → Int32} {d x : Nat} {M : qxM} {st : List Value} {ls : qxL} : Rs L xs (d) 333 53 ls st M x = Rs L xs (d) 333 54 ls (.int (nI 0) :: st) M x := Rs_next c333_53 rfl
theorem c333_54 : qx_code 333 54 = some (54, .putfield 191, 57, 8, 7, 1552) := by decide +kernel
theorem s333_54 {L : Nat} {xs : Nat → Int32} {d x : Nat} {M : qxM} {st : List Value} {ls : qxL} {t : Nat} {z : Int32} (hk : qx_kd t = 18) : Rs L xs (d) 333 54 ls (.int z :: .ref t :: st) M x = Rs L xs (d) 333 57 ls st (qx_up M t 7 z) x := Rs_when (cnd := qx_sh t = some (.inl 8) ∧ qx_fo 8 7 = none ∧ (qx_bf 8 7 = true → z = 0 ∨ z = 1)) ⟨qx_kd_obj (k := 8) (by decide) hk, rfl, fun h => nomatch h⟩ c333_54 rfl
theorem c333_57 : qx_code 333 57 = some (57, .aload_n 0, 58, 0, 0, 0) := by decide +kernel
theorem s333_57 {L : Nat} {xs : Nat → Int32} {d x : Nat} {M : qxM} {st : List Value} {a1 a2 : Option Value} {z : Nat} : Rs L xs (d) 333 57 [some (.ref z), a1, a2] st M x = Rs L xs (d) 333 58 [some (.ref z), a1, a2] (.ref z :: st) M x := Rs_next c333_57 rfl
theorem c333_58 : qx_code 333 58 = some (58, .invokevirtual 223, 61, 224, 1, 1791) := by decide +kernel
theorem s333_58 {L : Nat} {xs : Nat → Int32} {d x : Nat} {M : qxM} {st : List Value} {ls : qxL} {t : Nat} (hk : qx_kd t = 18) (hs : st.length ≤ 4) : Rs L xs (d + 1) 333 58 ls (.ref t :: st) M x = (Rs L xs d 224 0 [some (.ref t)] [] M 0).bind (qx_kn L xs (d + 1) 333 58 61 224 ls st x) := by
  have h1 : qx_act L xs (qx_rt 333) (58, .invokevirtual 223, 61, 224, 1, 1791) ls (.ref t :: st) M = if 1 ≤ (.ref t :: st).length ∧ st.length ≤ 4 then some (.inr (.inr (.inr (224, [.ref t], st)))) else none := rfl
  rw [if_pos ⟨by simp [List.length_cons]; try omega, hs⟩] at h1
  have h2 := qx_kd_obj (k := 8) (by decide) hk
  exact Rs_call c333_58 h1 (by rw [show qx_args 224 [.ref t] = decide (qx_sh t = some (.inl 8)) from rfl]; exact decide_eq_true h2)
theorem c333_61 : qx_code 333 61 = some (61, .ireturn, 62, 0, 0, 0) := by decide +kernel
theorem s333_61 {L : Nat} {xs : Nat → Int32} {d x : Nat} {M : qxM} {ls : qxL} {z : Int32} : Rs L xs (d) 333 61 ls [.int z] M x = some (.inl (some (.int z)), M, x) := Rs_ret c333_61 rfl
