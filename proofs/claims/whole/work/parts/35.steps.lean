/-! Steps: Search, State, Text, Ways. -/
theorem c53_0 : qx_code 53 0 = some (0, .aload_n 0, 1, 0, 0, 0) := by decide +kernel
theorem s53_0 {L : Nat} {xs : Nat → Int32} {d x : Nat} {M : qxM} {st : List Value} {a1 a2 : Option Value} {z : Nat} : Rs L xs (d) 53 0 [some (.ref z), a1, a2] st M x = Rs L xs (d) 53 1 [some (.ref z), a1, a2] (.ref z :: st) M x := Rs_next c53_0 rfl
theorem c53_1 : qx_code 53 1 = some (1, .iconst 1, 2, 0, 0, 0) := by decide +kernel
theorem s53_1 {L : Nat} {xs : Nat → Int32} {d x : Nat} {M : qxM} {st : List Value} {ls : qxL} : Rs L xs (d) 53 1 ls st M x = Rs L xs (d) 53 2 ls (.int (nI 1) :: st) M x := Rs_next c53_1 rfl
theorem c53_2 : qx_code 53 2 = some (2, .putfield 34, 5, 3, 0, 296) := by decide +kernel
theorem s53_2 {L : Nat} {xs : Nat → Int32} {d x : Nat} {M : qxM} {st : List Value} {ls : qxL} {t : Nat} {z : Int32} (hk : qx_kd t = 13) : Rs L xs (d) 53 2 ls (.int z :: .ref t :: st) M x = Rs L xs (d) 53 5 ls st (qx_up M t 0 z) x := Rs_when (cnd := qx_sh t = some (.inl 3) ∧ qx_fo 3 0 = none ∧ (qx_bf 3 0 = true → z = 0 ∨ z = 1)) ⟨qx_kd_obj (k := 3) (by decide) hk, rfl, fun h => nomatch h⟩ c53_2 rfl
theorem c53_5 : qx_code 53 5 = some (5, .aload_n 0, 6, 0, 0, 0) := by decide +kernel
theorem s53_5 {L : Nat} {xs : Nat → Int32} {d x : Nat} {M : qxM} {st : List Value} {a1 a2 : Option Value} {z : Nat} : Rs L xs (d) 53 5 [some (.ref z), a1, a2] st M x = Rs L xs (d) 53 6 [some (.ref z), a1, a2] (.ref z :: st) M x := Rs_next c53_5 rfl
theorem c53_6 : qx_code 53 6 = some (6, .iload_n 1, 7, 0, 0, 0) := by decide +kernel
theorem s53_6 {L : Nat} {xs : Nat → Int32} {d x : Nat} {M : qxM} {st : List Value} {a0 a2 : Option Value} {z : Int32} : Rs L xs (d) 53 6 [a0, some (.int z), a2] st M x = Rs L xs (d) 53 7 [a0, some (.int z), a2] (.int z :: st) M x := Rs_next c53_6 rfl
theorem c53_7 : qx_code 53 7 = some (7, .putfield 38, 10, 3, 1, 299) := by decide +kernel
theorem s53_7 {L : Nat} {xs : Nat → Int32} {d x : Nat} {M : qxM} {st : List Value} {ls : qxL} {t : Nat} {z : Int32} (hk : qx_kd t = 13) : Rs L xs (d) 53 7 ls (.int z :: .ref t :: st) M x = Rs L xs (d) 53 10 ls st (qx_up M t 1 z) x := Rs_when (cnd := qx_sh t = some (.inl 3) ∧ qx_fo 3 1 = none ∧ (qx_bf 3 1 = true → z = 0 ∨ z = 1)) ⟨qx_kd_obj (k := 3) (by decide) hk, rfl, fun h => nomatch h⟩ c53_7 rfl
theorem c53_10 : qx_code 53 10 = some (10, .aload_n 0, 11, 0, 0, 0) := by decide +kernel
theorem s53_10 {L : Nat} {xs : Nat → Int32} {d x : Nat} {M : qxM} {st : List Value} {a1 a2 : Option Value} {z : Nat} : Rs L xs (d) 53 10 [some (.ref z), a1, a2] st M x = Rs L xs (d) 53 11 [some (.ref z), a1, a2] (.ref z :: st) M x := Rs_next c53_10 rfl
theorem c53_11 : qx_code 53 11 = some (11, .iconst 0, 12, 0, 0, 0) := by decide +kernel
theorem s53_11 {L : Nat} {xs : Nat → Int32} {d x : Nat} {M : qxM} {st : List Value} {ls : qxL} : Rs L xs (d) 53 11 ls st M x = Rs L xs (d) 53 12 ls (.int (nI 0) :: st) M x := Rs_next c53_11 rfl
theorem c53_12 : qx_code 53 12 = some (12, .putfield 41, 15, 3, 2, 301) := by decide +kernel
theorem s53_12 {L : Nat} {xs : Nat → Int32} {d x : Nat} {M : qxM} {st : List Value} {ls : qxL} {t : Nat} {z : Int32} (hk : qx_kd t = 13) : Rs L xs (d) 53 12 ls (.int z :: .ref t :: st) M x = Rs L xs (d) 53 15 ls st (qx_up M t 2 z) x := Rs_when (cnd := qx_sh t = some (.inl 3) ∧ qx_fo 3 2 = none ∧ (qx_bf 3 2 = true → z = 0 ∨ z = 1)) ⟨qx_kd_obj (k := 3) (by decide) hk, rfl, fun h => nomatch h⟩ c53_12 rfl
theorem c53_15 : qx_code 53 15 = some (15, .aload_n 0, 16, 0, 0, 0) := by decide +kernel
theorem s53_15 {L : Nat} {xs : Nat → Int32} {d x : Nat} {M : qxM} {st : List Value} {a1 a2 : Option Value} {z : Nat} : Rs L xs (d) 53 15 [some (.ref z), a1, a2] st M x = Rs L xs (d) 53 16 [some (.ref z), a1, a2] (.ref z :: st) M x := Rs_next c53_15 rfl
theorem c53_16 : qx_code 53 16 = some (16, .iconst 0, 17, 0, 0, 0) := by decide +kernel
theorem s53_16 {L : Nat} {xs : Nat → Int32} {d x : Nat} {M : qxM} {st : List Value} {ls : qxL} : Rs L xs (d) 53 16 ls st M x = Rs L xs (d) 53 17 ls (.int (nI 0) :: st) M x := Rs_next c53_16 rfl
theorem c53_17 : qx_code 53 17 = some (17, .putfield 44, 20, 3, 3, 304) := by decide +kernel
theorem s53_17 {L : Nat} {xs : Nat → Int32} {d x : Nat} {M : qxM} {st : List Value} {ls : qxL} {t : Nat} {z : Int32} (hk : qx_kd t = 13) : Rs L xs (d) 53 17 ls (.int z :: .ref t :: st) M x = Rs L xs (d) 53 20 ls st (qx_up M t 3 z) x := Rs_when (cnd := qx_sh t = some (.inl 3) ∧ qx_fo 3 3 = none ∧ (qx_bf 3 3 = true → z = 0 ∨ z = 1)) ⟨qx_kd_obj (k := 3) (by decide) hk, rfl, fun h => nomatch h⟩ c53_17 rfl
theorem c53_20 : qx_code 53 20 = some (20, .aload_n 0, 21, 0, 0, 0) := by decide +kernel
theorem s53_20 {L : Nat} {xs : Nat → Int32} {d x : Nat} {M : qxM} {st : List Value} {a1 a2 : Option Value} {z : Nat} : Rs L xs (d) 53 20 [some (.ref z), a1, a2] st M x = Rs L xs (d) 53 21 [some (.ref z), a1, a2] (.ref z :: st) M x := Rs_next c53_20 rfl
theorem c53_21 : qx_code 53 21 = some (21, .iconst 0, 22, 0, 0, 0) := by decide +kernel
theorem s53_21 {L : Nat} {xs : Nat → Int32} {d x : Nat} {M : qxM} {st : List Value} {ls : qxL} : Rs L xs (d) 53 21 ls st M x = Rs L xs (d) 53 22 ls (.int (nI 0) :: st) M x := Rs_next c53_21 rfl
theorem c53_22 : qx_code 53 22 = some (22, .putfield 47, 25, 3, 4, 307) := by decide +kernel
theorem s53_22 {L : Nat} {xs : Nat → Int32} {d x : Nat} {M : qxM} {st : List Value} {ls : qxL} {t : Nat} {z : Int32} (hk : qx_kd t = 13) : Rs L xs (d) 53 22 ls (.int z :: .ref t :: st) M x = Rs L xs (d) 53 25 ls st (qx_up M t 4 z) x := Rs_when (cnd := qx_sh t = some (.inl 3) ∧ qx_fo 3 4 = none ∧ (qx_bf 3 4 = true → z = 0 ∨ z = 1)) ⟨qx_kd_obj (k := 3) (by decide) hk, rfl, fun h => nomatch h⟩ c53_22 rfl
theorem c53_25 : qx_code 53 25 = some (25, .aload_n 0, 26, 0, 0, 0) := by decide +kernel
theorem s53_25 {L : Nat} {xs : Nat → Int32} {d x : Nat} {M : qxM} {st : List Value} {a1 a2 : Option Value} {z : Nat} : Rs L xs (d) 53 25 [some (.ref z), a1, a2] st M x = Rs L xs (d) 53 26 [some (.ref z), a1, a2] (.ref z :: st) M x := Rs_next c53_25 rfl
theorem c53_26 : qx_code 53 26 = some (26, .iconst 0, 27, 0, 0, 0) := by decide +kernel
theorem s53_26 {L : Nat} {xs : Nat → Int32} {d x : Nat} {M : qxM} {st : List Value} {ls : qxL} : Rs L xs (d) 53 26 ls st M x = Rs L xs (d) 53 27 ls (.int (nI 0) :: st) M x := Rs_next c53_26 rfl
theorem c53_27 : qx_code 53 27 = some (27, .putfield 50, 30, 3, 5, 309) := by decide +kernel
theorem s53_27 {L : Nat} {xs : Nat → Int32} {d x : Nat} {M : qxM} {st : List Value} {ls : qxL} {t : Nat} {z : Int32} (hk : qx_kd t = 13) : Rs L xs (d) 53 27 ls (.int z :: .ref t :: st) M x = Rs L xs (d) 53 30 ls st (qx_up M t 5 z) x := Rs_when (cnd := qx_sh t = some (.inl 3) ∧ qx_fo 3 5 = none ∧ (qx_bf 3 5 = true → z = 0 ∨ z = 1)) ⟨qx_kd_obj (k := 3) (by decide) hk, rfl, fun h => nomatch h⟩ c53_27 rfl
theorem c53_30 : qx_code 53 30 = some (30, .aload_n 0, 31, 0, 0, 0) := by decide +kernel
theorem s53_30 {L : Nat} {xs : Nat → Int32} {d x : Nat} {M : qxM} {st : List Value} {a1 a2 : Option Value} {z : Nat} : Rs L xs (d) 53 30 [some (.ref z), a1, a2] st M x = Rs L xs (d) 53 31 [some (.ref z), a1, a2] (.ref z :: st) M x := Rs_next c53_30 rfl
theorem c53_31 : qx_code 53 31 = some (31, .iconst 0, 32, 0, 0, 0) := by decide +kernel
theorem s53_31 {L : Nat} {xs : Nat → Int32} {d x : Nat} {M : qxM} {st : List Value} {ls : qxL} : Rs L xs (d) 53 31 ls st M x = Rs L xs (d) 53 32 ls (.int (nI 0) :: st) M x := Rs_next c53_31 rfl
theorem c53_32 : qx_code 53 32 = some (32, .putfield 53, 35, 3, 6, 311) := by decide +kernel
theorem s53_32 {L : Nat} {xs : Nat → Int32} {d x : Nat} {M : qxM} {st : List Value} {ls : qxL} {t : Nat} {z : Int32} (hk : qx_kd t = 13) : Rs L xs (d) 53 32 ls (.int z :: .ref t :: st) M x = Rs L xs (d) 53 35 ls st (qx_up M t 6 z) x := Rs_when (cnd := qx_sh t = some (.inl 3) ∧ qx_fo 3 6 = none ∧ (qx_bf 3 6 = true → z = 0 ∨ z = 1)) ⟨qx_kd_obj (k := 3) (by decide) hk, rfl, fun h => nomatch h⟩ c53_32 rfl
theorem c53_35 : qx_code 53 35 = some (35, .aload_n 0, 36, 0, 0, 0) := by decide +kernel
theorem s53_35 {L : Nat} {xs : Nat → Int32} {d x : Nat} {M : qxM} {st : List Value} {a1 a2 : Option Value} {z : Nat} : Rs L xs (d) 53 35 [some (.ref z), a1, a2] st M x = Rs L xs (d) 53 36 [some (.ref z), a1, a2] (.ref z :: st) M x := Rs_next c53_35 rfl
theorem c53_36 : qx_code 53 36 = some (36, .iconst 0, 37, 0, 0, 0) := by decide +kernel
theorem s53_36 {L : Nat} {xs : Nat → Int32} {d x : Nat} {M : qxM} {st : List Value} {ls : qxL} : Rs L xs (d) 53 36 ls st M x = Rs L xs (d) 53 37 ls (.int (nI 0) :: st) M x := Rs_next c53_36 rfl
theorem c53_37 : qx_code 53 37 = some (37, .putfield 56, 40, 3, 7, 312) := by decide +kernel
theorem s53_37 {L : Nat} {xs : Nat → Int32} {d x : Nat} {M : qxM} {st : List Value} {ls : qxL} {t : Nat} {z : Int32} (hk : qx_kd t = 13) : Rs L xs (d) 53 37 ls (.int z :: .ref t :: st) M x = Rs L xs (d) 53 40 ls st (qx_up M t 7 z) x := Rs_when (cnd := qx_sh t = some (.inl 3) ∧ qx_fo 3 7 = none ∧ (qx_bf 3 7 = true → z = 0 ∨ z = 1)) ⟨qx_kd_obj (k := 3) (by decide) hk, rfl, fun h => nomatch h⟩ c53_37 rfl
theorem c53_40 : qx_code 53 40 = some (40, .aload_n 0, 41, 0, 0, 0) := by decide +kernel
theorem s53_40 {L : Nat} {xs : Nat → Int32} {d x : Nat} {M : qxM} {st : List Value} {a1 a2 : Option Value} {z : Nat} : Rs L xs (d) 53 40 [some (.ref z), a1, a2] st M x = Rs L xs (d) 53 41 [some (.ref z), a1, a2] (.ref z :: st) M x := Rs_next c53_40 rfl
theorem c53_41 : qx_code 53 41 = some (41, .iconst 0, 42, 0, 0, 0) := by decide +kernel
theorem s53_41 {L : Nat} {xs : Nat → Int32} {d x : Nat} {M : qxM} {st : List Value} {ls : qxL} : Rs L xs (d) 53 41 ls st M x = Rs L xs (d) 53 42 ls (.int (nI 0) :: st) M x := Rs_next c53_41 rfl
theorem c53_42 : qx_code 53 42 = some (42, .putfield 59, 45, 3, 8, 313) := by decide +kernel
theorem s53_42 {L : Nat} {xs : Nat → Int32} {d x : Nat} {M : qxM} {st : List Value} {ls : qxL} {t : Nat} {z : Int32} (hk : qx_kd t = 13) : Rs L xs (d) 53 42 ls (.int z :: .ref t :: st) M x = Rs L xs (d) 53 45 ls st (qx_up M t 8 z) x := Rs_when (cnd := qx_sh t = some (.inl 3) ∧ qx_fo 3 8 = none ∧ (qx_bf 3 8 = true → z = 0 ∨ z = 1)) ⟨qx_kd_obj (k := 3) (by decide) hk, rfl, fun h => nomatch h⟩ c53_42 rfl
theorem c53_45 : qx_code 53 45 = some (45, .iconst 0, 46, 0, 0, 0) := by decide +kernel
theorem s53_45 {L : Nat} {xs : Nat → Int32} {d x : Nat} {M : qxM} {st : List Value} {ls : qxL} : Rs L xs (d) 53 45 ls st M x = Rs L xs (d) 53 46 ls (.int (nI 0) :: st) M x := Rs_next c53_45 rfl
theorem c53_46 : qx_code 53 46 = some (46, .istore_n 2, 47, 0, 0, 0) := by decide +kernel
theorem s53_46i {L : Nat} {xs : Nat → Int32} {d x : Nat} {M : qxM} {st : List Value} {a0 a2 : Option Value} {z : Int32} {y : Int32} : Rs L xs (d) 53 46 [a0, some (.int y), a2] (.int z :: st) M x = Rs L xs (d) 53 47 [a0, some (.int y), some (.int z)] st M x := Rs_next c53_46 rfl
theorem s53_46r {L : Nat} {xs : Nat → Int32} {d x : Nat} {M : qxM} {st : List Value} {a0 a2 : Option Value} {z : Int32} {y : Nat} : Rs L xs (d) 53 46 [a0, some (.ref y), a2] (.int z :: st) M x = Rs L xs (d) 53 47 [a0, some (.ref y), some (.int z)] st M x := Rs_next c53_46 rfl
theorem s53_46n {L : Nat} {xs : Nat → Int32} {d x : Nat} {M : qxM} {st : List Value} {a0 a2 : Option Value} {z : Int32} : Rs L xs (d) 53 46 [a0, none, a2] (.int z :: st) M x = Rs L xs (d) 53 47 [a0, none, some (.int z)] st M x := Rs_next c53_46 rfl
theorem c53_47 : qx_code 53 47 = some (47, .iload_n 2, 48, 0, 0, 0) := by decide +kernel
theorem s53_47 {L : Nat} {xs : Nat → Int32} {d x : Nat} {M : qxM} {st : List Value} {a0 a1 : Option Value} {z : Int32} : Rs L xs (d) 53 47 [a0, a1, some (.int z)] st M x = Rs L xs (d) 53 48 [a0, a1, some (.int z)] (.int z :: st) M x := Rs_next c53_47 rfl
theorem c53_48 : qx_code 53 48 = some (48, .bipush 14, 50, 0, 0, 0) := by decide +kernel
theorem s53_48 {L : Nat} {xs : Nat → Int32} {d x : Nat} {M : qxM} {st : List Value} {ls : qxL} : Rs L xs (d) 53 48 ls st M x = Rs L xs (d) 53 50 ls (.int (nI 14) :: st) M x := Rs_next c53_48 rfl
theorem c53_50 : qx_code 53 50 = some (50, .if_icmp .ge 18, 53, 68, 0, 0) := by decide +kernel
theorem s53_50 {L : Nat} {xs : Nat → Int32} {d x : Nat} {M : qxM} {st : List Value} {ls : qxL} {z y : Int32} : Rs L xs (d) 53 50 ls (.int y :: .int z :: st) M x = if y ≤ z then Rs L xs (d) 53 68 ls st M x else Rs L xs (d) 53 53 ls st M x := Rs_ite c53_50 rfl
theorem c53_53 : qx_code 53 53 = some (53, .aload_n 0, 54, 0, 0, 0) := by decide +kernel
theorem s53_53 {L : Nat} {xs : Nat → Int32} {d x : Nat} {M : qxM} {st : List Value} {a1 a2 : Option Value} {z : Nat} : Rs L xs (d) 53 53 [some (.ref z), a1, a2] st M x = Rs L xs (d) 53 54 [some (.ref z), a1, a2] (.ref z :: st) M x := Rs_next c53_53 rfl
theorem c53_54 : qx_code 53 54 = some (54, .getfield 15, 57, 3, 10, 315) := by decide +kernel
theorem s53_54 {L : Nat} {xs : Nat → Int32} {d x : Nat} {M : qxM} {st : List Value} {ls : qxL} {t : Nat} (hk : qx_kd t = 13) : Rs L xs (d) 53 54 ls (.ref t :: st) M x = Rs L xs (d) 53 57 ls (.ref (t + 2) :: st) M x := Rs_when (qx_kd_obj (k := 3) (by decide) hk) c53_54 rfl
theorem c53_57 : qx_code 53 57 = some (57, .iload_n 2, 58, 0, 0, 0) := by decide +kernel
theorem s53_57 {L : Nat} {xs : Nat → Int32} {d x : Nat} {M : qxM} {st : List Value} {a0 a1 : Option Value} {z : Int32} : Rs L xs (d) 53 57 [a0, a1, some (.int z)] st M x = Rs L xs (d) 53 58 [a0, a1, some (.int z)] (.int z :: st) M x := Rs_next c53_57 rfl
theorem c53_58 : qx_code 53 58 = some (58, .iload_n 2, 59, 0, 0, 0) := by decide +kernel
theorem s53_58 {L : Nat} {xs : Nat → Int32} {d x : Nat} {M : qxM} {st : List Value} {a0 a1 : Option Value} {z : Int32} : Rs L xs (d) 53 58 [a0, a1, some (.int z)] st M x = Rs L xs (d) 53 59 [a0, a1, some (.int z)] (.int z :: st) M x := Rs_next c53_58 rfl
theorem c53_59 : qx_code 53 59 = some (59, .invokestatic 62, 62, 174, 3, 1241) := by decide +kernel
theorem s53_59 {L : Nat} {xs : Nat → Int32} {d x : Nat} {M : qxM} {st : List Value} {ls : qxL} {z0 : Nat} {z1 : Int32} {z2 : Int32} (hs : st.length ≤ 4) : Rs L xs (d + 1) 53 59 ls (.int z2 :: .int z1 :: .ref z0 :: st) M x = (Rs L xs d 174 0 [some (.ref z0), some (.int z1), some (.int z2)] [] M 0).bind (qx_kn L xs (d + 1) 53 59 62 174 ls st x) := by
  have h1 : qx_act L xs (qx_rt 53) (59, .invokestatic 62, 62, 174, 3, 1241) ls (.int z2 :: .int z1 :: .ref z0 :: st) M = if 3 ≤ (.int z2 :: .int z1 :: .ref z0 :: st).length ∧ st.length ≤ 4 then some (.inr (.inr (.inr (174, [.ref z0, .int z1, .int z2], st)))) else none := rfl
  rw [if_pos ⟨by simp [List.length_cons]; try omega, hs⟩] at h1
  exact Rs_call c53_59 h1 rfl
theorem c53_62 : qx_code 53 62 = some (62, .iinc 2 1, 65, 0, 0, 0) := by decide +kernel
theorem s53_62i {L : Nat} {xs : Nat → Int32} {d x : Nat} {M : qxM} {st : List Value} {a0 : Option Value} {z : Int32} {y : Int32} : Rs L xs (d) 53 62 [a0, some (.int y), some (.int z)] st M x = Rs L xs (d) 53 65 [a0, some (.int y), some (.int (z + (nI 1)))] st M x := Rs_next c53_62 rfl
theorem s53_62r {L : Nat} {xs : Nat → Int32} {d x : Nat} {M : qxM} {st : List Value} {a0 : Option Value} {z : Int32} {y : Nat} : Rs L xs (d) 53 62 [a0, some (.ref y), some (.int z)] st M x = Rs L xs (d) 53 65 [a0, some (.ref y), some (.int (z + (nI 1)))] st M x := Rs_next c53_62 rfl
theorem s53_62n {L : Nat} {xs : Nat → Int32} {d x : Nat} {M : qxM} {st : List Value} {a0 : Option Value} {z : Int32} : Rs L xs (d) 53 62 [a0, none, some (.int z)] st M x = Rs L xs (d) 53 65 [a0, none, some (.int (z + (nI 1)))] st M x := Rs_next c53_62 rfl
theorem c53_65 : qx_code 53 65 = some (65, .goto (-18), 68, 47, 0, 0) := by decide +kernel
theorem s53_65 {L : Nat} {xs : Nat → Int32} {d x : Nat} {M : qxM} {st : List Value} {ls : qxL} : Rs L xs (d) 53 65 ls st M x = Rs L xs (d) 53 47 ls st M x := Rs_next c53_65 rfl
theorem c53_68 : qx_code 53 68 = some (68, .aload_n 0, 69, 0, 0, 0) := by decide +kernel
theorem s53_68 {L : Nat} {xs : Nat → Int32} {d x : Nat} {M : qxM} {st : List Value} {a1 a2 : Option Value} {z : Nat} : Rs L xs (d) 53 68 [some (.ref z), a1, a2] st M x = Rs L xs (d) 53 69 [some (.ref z), a1, a2] (.ref z :: st) M x := Rs_next c53_68 rfl
theorem c53_69 : qx_code 53 69 = some (69, .getfield 18, 72, 3, 11, 316) := by decide +kernel
theorem s53_69 {L : Nat} {xs : Nat → Int32} {d x : Nat} {M : qxM} {st : List Value} {ls : qxL} {t : Nat} (hk : qx_kd t = 13) : Rs L xs (d) 53 69 ls (.ref t :: st) M x = Rs L xs (d) 53 72 ls (.ref (t + 3) :: st) M x := Rs_when (qx_kd_obj (k := 3) (by decide) hk) c53_69 rfl
theorem c53_72 : qx_code 53 72 = some (72, .iconst (-1), 73, 0, 0, 0) := by decide +kernel
theorem s53_72 {L : Nat} {xs : Nat → Int32} {d x : Nat} {M : qxM} {st : List Value} {ls : qxL} : Rs L xs (d) 53 72 ls st M x = Rs L xs (d) 53 73 ls (.int (-1) :: st) M x := Rs_next c53_72 rfl
theorem c53_73 : qx_code 53 73 = some (73, .invokestatic 66, 76, 175, 2, 1242) := by decide +kernel
theorem s53_73 {L : Nat} {xs : Nat → Int32} {d x : Nat} {M : qxM} {st : List Value} {ls : qxL} {z0 : Nat} {z1 : Int32} (hs : st.length ≤ 4) : Rs L xs (d + 1) 53 73 ls (.int z1 :: .ref z0 :: st) M x = (Rs L xs d 175 0 [some (.ref z0), some (.int z1), none] [] M 0).bind (qx_kn L xs (d + 1) 53 73 76 175 ls st x) := by
  have h1 : qx_act L xs (qx_rt 53) (73, .invokestatic 66, 76, 175, 2, 1242) ls (.int z1 :: .ref z0 :: st) M = if 2 ≤ (.int z1 :: .ref z0 :: st).length ∧ st.length ≤ 4 then some (.inr (.inr (.inr (175, [.ref z0, .int z1], st)))) else none := rfl
  rw [if_pos ⟨by simp [List.length_cons]; try omega, hs⟩] at h1
  exact Rs_call c53_73 h1 rfl
theorem c53_76 : qx_code 53 76 = some (76, .aload_n 0, 77, 0, 0, 0) := by decide +kernel
theorem s53_76 {L : Nat} {xs : Nat → Int32} {d x : Nat} {M : qxM} {st : List Value} {a1 a2 : Option Value} {z : Nat} : Rs L xs (d) 53 76 [some (.ref z), a1, a2] st M x = Rs L xs (d) 53 77 [some (.ref z), a1, a2] (.ref z :: st) M x := Rs_next c53_76 rfl
theorem c53_77 : qx_code 53 77 = some (77, .getfield 21, 80, 3, 12, 318) := by decide +kernel
theorem s53_77 {L : Nat} {xs : Nat → Int32} {d x : Nat} {M : qxM} {st : List Value} {ls : qxL} {t : Nat} (hk : qx_kd t = 13) : Rs L xs (d) 53 77 ls (.ref t :: st) M x = Rs L xs (d) 53 80 ls (.ref (t + 4) :: st) M x := Rs_when (qx_kd_obj (k := 3) (by decide) hk) c53_77 rfl
theorem c53_80 : qx_code 53 80 = some (80, .iconst (-1), 81, 0, 0, 0) := by decide +kernel
theorem s53_80 {L : Nat} {xs : Nat → Int32} {d x : Nat} {M : qxM} {st : List Value} {ls : qxL} : Rs L xs (d) 53 80 ls st M x = Rs L xs (d) 53 81 ls (.int (-1) :: st) M x := Rs_next c53_80 rfl
theorem c53_81 : qx_code 53 81 = some (81, .invokestatic 66, 84, 175, 2, 1242) := by decide +kernel
theorem s53_81 {L : Nat} {xs : Nat → Int32} {d x : Nat} {M : qxM} {st : List Value} {ls : qxL} {z0 : Nat} {z1 : Int32} (hs : st.length ≤ 4) : Rs L xs (d + 1) 53 81 ls (.int z1 :: .ref z0 :: st) M x = (Rs L xs d 175 0 [some (.ref z0), some (.int z1), none] [] M 0).bind (qx_kn L xs (d + 1) 53 81 84 175 ls st x) := by
  have h1 : qx_act L xs (qx_rt 53) (81, .invokestatic 66, 84, 175, 2, 1242) ls (.int z1 :: .ref z0 :: st) M = if 2 ≤ (.int z1 :: .ref z0 :: st).length ∧ st.length ≤ 4 then some (.inr (.inr (.inr (175, [.ref z0, .int z1], st)))) else none := rfl
  rw [if_pos ⟨by simp [List.length_cons]; try omega, hs⟩] at h1
  exact Rs_call c53_81 h1 rfl
theorem c53_84 : qx_code 53 84 = some (84, .aload_n 0, 85, 0, 0, 0) := by decide +kernel
theorem s53_84 {L : Nat} {xs : Nat → Int32} {d x : Nat} {M : qxM} {st : List Value} {a1 a2 : Option Value} {z : Nat} : Rs L xs (d) 53 84 [some (.ref z), a1, a2] st M x = Rs L xs (d) 53 85 [some (.ref z), a1, a2] (.ref z :: st) M x := Rs_next c53_84 rfl
theorem c53_85 : qx_code 53 85 = some (85, .getfield 24, 88, 3, 13, 320) := by decide +kernel
theorem s53_85 {L : Nat} {xs : Nat → Int32} {d x : Nat} {M : qxM} {st : List Value} {ls : qxL} {t : Nat} (hk : qx_kd t = 13) : Rs L xs (d) 53 85 ls (.ref t :: st) M x = Rs L xs (d) 53 88 ls (.ref (t + 5) :: st) M x := Rs_when (qx_kd_obj (k := 3) (by decide) hk) c53_85 rfl
theorem c53_88 : qx_code 53 88 = some (88, .iconst (-1), 89, 0, 0, 0) := by decide +kernel
theorem s53_88 {L : Nat} {xs : Nat → Int32} {d x : Nat} {M : qxM} {st : List Value} {ls : qxL} : Rs L xs (d) 53 88 ls st M x = Rs L xs (d) 53 89 ls (.int (-1) :: st) M x := Rs_next c53_88 rfl
theorem c53_89 : qx_code 53 89 = some (89, .invokestatic 66, 92, 175, 2, 1242) := by decide +kernel
theorem s53_89 {L : Nat} {xs : Nat → Int32} {d x : Nat} {M : qxM} {st : List Value} {ls : qxL} {z0 : Nat} {z1 : Int32} (hs : st.length ≤ 4) : Rs L xs (d + 1) 53 89 ls (.int z1 :: .ref z0 :: st) M x = (Rs L xs d 175 0 [some (.ref z0), some (.int z1), none] [] M 0).bind (qx_kn L xs (d + 1) 53 89 92 175 ls st x) := by
  have h1 : qx_act L xs (qx_rt 53) (89, .invokestatic 66, 92, 175, 2, 1242) ls (.int z1 :: .ref z0 :: st) M = if 2 ≤ (.int z1 :: .ref z0 :: st).length ∧ st.length ≤ 4 then some (.inr (.inr (.inr (175, [.ref z0, .int z1], st)))) else none := rfl
  rw [if_pos ⟨by simp [List.length_cons]; try omega, hs⟩] at h1
  exact Rs_call c53_89 h1 rfl
theorem c53_92 : qx_code 53 92 = some (92, .aload_n 0, 93, 0, 0, 0) := by decide +kernel
theorem s53_92 {L : Nat} {xs : Nat → Int32} {d x : Nat} {M : qxM} {st : List Value} {a1 a2 : Option Value} {z : Nat} : Rs L xs (d) 53 92 [some (.ref z), a1, a2] st M x = Rs L xs (d) 53 93 [some (.ref z), a1, a2] (.ref z :: st) M x := Rs_next c53_92 rfl
theorem c53_93 : qx_code 53 93 = some (93, .getfield 30, 96, 3, 14, 322) := by decide +kernel
theorem s53_93 {L : Nat} {xs : Nat → Int32} {d x : Nat} {M : qxM} {st : List Value} {ls : qxL} {t : Nat} (hk : qx_kd t = 13) : Rs L xs (d) 53 93 ls (.ref t :: st) M x = Rs L xs (d) 53 96 ls (.ref (t + 6) :: st) M x := Rs_when (qx_kd_obj (k := 3) (by decide) hk) c53_93 rfl
theorem c53_96 : qx_code 53 96 = some (96, .invokevirtual 70, 99, 85, 1, 1243) := by decide +kernel
theorem s53_96 {L : Nat} {xs : Nat → Int32} {d x : Nat} {M : qxM} {st : List Value} {ls : qxL} {t : Nat} (hk : qx_kd t = 16) (hs : st.length ≤ 4) : Rs L xs (d + 1) 53 96 ls (.ref t :: st) M x = (Rs L xs d 85 0 [some (.ref t)] [] M 0).bind (qx_kn L xs (d + 1) 53 96 99 85 ls st x) := by
  have h1 : qx_act L xs (qx_rt 53) (96, .invokevirtual 70, 99, 85, 1, 1243) ls (.ref t :: st) M = if 1 ≤ (.ref t :: st).length ∧ st.length ≤ 4 then some (.inr (.inr (.inr (85, [.ref t], st)))) else none := rfl
  rw [if_pos ⟨by simp [List.length_cons]; try omega, hs⟩] at h1
  have h2 := qx_kd_obj (k := 6) (by decide) hk
  exact Rs_call c53_96 h1 (by rw [show qx_args 85 [.ref t] = decide (qx_sh t = some (.inl 6)) from rfl]; exact decide_eq_true h2)
theorem c53_99 : qx_code 53 99 = some (99, .aload_n 0, 100, 0, 0, 0) := by decide +kernel
theorem s53_99 {L : Nat} {xs : Nat → Int32} {d x : Nat} {M : qxM} {st : List Value} {a1 a2 : Option Value} {z : Nat} : Rs L xs (d) 53 99 [some (.ref z), a1, a2] st M x = Rs L xs (d) 53 100 [some (.ref z), a1, a2] (.ref z :: st) M x := Rs_next c53_99 rfl
theorem c53_100 : qx_code 53 100 = some (100, .iload_n 1, 101, 0, 0, 0) := by decide +kernel
theorem s53_100 {L : Nat} {xs : Nat → Int32} {d x : Nat} {M : qxM} {st : List Value} {a0 a2 : Option Value} {z : Int32} : Rs L xs (d) 53 100 [a0, some (.int z), a2] st M x = Rs L xs (d) 53 101 [a0, some (.int z), a2] (.int z :: st) M x := Rs_next c53_100 rfl
theorem c53_101 : qx_code 53 101 = some (101, .invokevirtual 73, 104, 66, 2, 1248) := by decide +kernel
theorem s53_101 {L : Nat} {xs : Nat → Int32} {d x : Nat} {M : qxM} {st : List Value} {ls : qxL} {t : Nat} {z0 : Int32} (hk : qx_kd t = 13) (hs : st.length ≤ 4) : Rs L xs (d + 1) 53 101 ls (.int z0 :: .ref t :: st) M x = (Rs L xs d 66 0 [some (.ref t), some (.int z0)] [] M 0).bind (qx_kn L xs (d + 1) 53 101 104 66 ls st x) := by
  have h1 : qx_act L xs (qx_rt 53) (101, .invokevirtual 73, 104, 66, 2, 1248) ls (.int z0 :: .ref t :: st) M = if 2 ≤ (.int z0 :: .ref t :: st).length ∧ st.length ≤ 4 then some (.inr (.inr (.inr (66, [.ref t, .int z0], st)))) else none := rfl
  rw [if_pos ⟨by simp [List.length_cons]; try omega, hs⟩] at h1
  have h2 := qx_kd_obj (k := 3) (by decide) hk
  exact Rs_call c53_101 h1 (by rw [show qx_args 66 [.ref t, .int z0] = decide (qx_sh t = some (.inl 3)) from rfl]; exact decide_eq_true h2)
theorem c53_104 : qx_code 53 104 = some (104, .aload_n 0, 105, 0, 0, 0) := by decide +kernel
theorem s53_104 {L : Nat} {xs : Nat → Int32} {d x : Nat} {M : qxM} {st : List Value} {a1 a2 : Option Value} {z : Nat} : Rs L xs (d) 53 104 [some (.ref z), a1, a2] st M x = Rs L xs (d) 53 105 [some (.ref z), a1, a2] (.ref z :: st) M x := Rs_next c53_104 rfl
theorem c53_105 : qx_code 53 105 = some (105, .getfield 30, 108, 3, 14, 322) := by decide +kernel
theorem s53_105 {L : Nat} {xs : Nat → Int32} {d x : Nat} {M : qxM} {st : List Value} {ls : qxL} {t : Nat} (hk : qx_kd t = 13) : Rs L xs (d) 53 105 ls (.ref t :: st) M x = Rs L xs (d) 53 108 ls (.ref (t + 6) :: st) M x := Rs_when (qx_kd_obj (k := 3) (by decide) hk) c53_105 rfl
theorem c53_108 : qx_code 53 108 = some (108, .iload_n 1, 109, 0, 0, 0) := by decide +kernel
theorem s53_108 {L : Nat} {xs : Nat → Int32} {d x : Nat} {M : qxM} {st : List Value} {a0 a2 : Option Value} {z : Int32} : Rs L xs (d) 53 108 [a0, some (.int z), a2] st M x = Rs L xs (d) 53 109 [a0, some (.int z), a2] (.int z :: st) M x := Rs_next c53_108 rfl
theorem c53_109 : qx_code 53 109 = some (109, .iload_n 1, 110, 0, 0, 0) := by decide +kernel
theorem s53_109 {L : Nat} {xs : Nat → Int32} {d x : Nat} {M : qxM} {st : List Value} {a0 a2 : Option Value} {z : Int32} : Rs L xs (d) 53 109 [a0, some (.int z), a2] st M x = Rs L xs (d) 53 110 [a0, some (.int z), a2] (.int z :: st) M x := Rs_next c53_109 rfl
theorem c53_110 : qx_code 53 110 = some (110, .invokevirtual 77, 113, 89, 3, 1252) := by decide +kernel
theorem s53_110 {L : Nat} {xs : Nat → Int32} {d x : Nat} {M : qxM} {st : List Value} {ls : qxL} {t : Nat} {z0 : Int32} {z1 : Int32} (hk : qx_kd t = 16) (hs : st.length ≤ 4) : Rs L xs (d + 1) 53 110 ls (.int z1 :: .int z0 :: .ref t :: st) M x = (Rs L xs d 89 0 [some (.ref t), some (.int z0), some (.int z1), none] [] M 0).bind (qx_kn L xs (d + 1) 53 110 113 89 ls st x) := by
  have h1 : qx_act L xs (qx_rt 53) (110, .invokevirtual 77, 113, 89, 3, 1252) ls (.int z1 :: .int z0 :: .ref t :: st) M = if 3 ≤ (.int z1 :: .int z0 :: .ref t :: st).length ∧ st.length ≤ 4 then some (.inr (.inr (.inr (89, [.ref t, .int z0, .int z1], st)))) else none := rfl
  rw [if_pos ⟨by simp [List.length_cons]; try omega, hs⟩] at h1
  have h2 := qx_kd_obj (k := 6) (by decide) hk
  exact Rs_call c53_110 h1 (by rw [show qx_args 89 [.ref t, .int z0, .int z1] = decide (qx_sh t = some (.inl 6)) from rfl]; exact decide_eq_true h2)
theorem c53_113 : qx_code 53 113 = some (113, .return_, 114, 0, 0, 0) := by decide +kernel
theorem s53_113 {L : Nat} {xs : Nat → Int32} {d x : Nat} {M : qxM} {ls : qxL} : Rs L xs (d) 53 113 ls [] M x = some (.inl none, M, x) := Rs_ret c53_113 rfl
theorem c54_0 : qx_code 54 0 = some (0, .aload_n 0, 1, 0, 0, 0) := by decide +kernel
theorem s54_0 {L : Nat} {xs : Nat → Int32} {d x : Nat} {M : qxM} {st : List Value} {z : Nat} : Rs L xs (d) 54 0 [some (.ref z)] st M x = Rs L xs (d) 54 1 [some (.ref z)] (.ref z :: st) M x := Rs_next c54_0 rfl
theorem c54_1 : qx_code 54 1 = some (1, .iconst 0, 2, 0, 0, 0) := by decide +kernel
theorem s54_1 {L : Nat} {xs : Nat → Int32} {d x : Nat} {M : qxM} {st : List Value} {ls : qxL} : Rs L xs (d) 54 1 ls st M x = Rs L xs (d) 54 2 ls (.int (nI 0) :: st) M x := Rs_next c54_1 rfl
theorem c54_2 : qx_code 54 2 = some (2, .putfield 34, 5, 3, 0, 296) := by decide +kernel
theorem s54_2 {L : Nat} {xs : Nat → Int32} {d x : Nat} {M : qxM} {st : List Value} {ls : qxL} {t : Nat} {z : Int32} (hk : qx_kd t = 13) : Rs L xs (d) 54 2 ls (.int z :: .ref t :: st) M x = Rs L xs (d) 54 5 ls st (qx_up M t 0 z) x := Rs_when (cnd := qx_sh t = some (.inl 3) ∧ qx_fo 3 0 = none ∧ (qx_bf 3 0 = true → z = 0 ∨ z = 1)) ⟨qx_kd_obj (k := 3) (by decide) hk, rfl, fun h => nomatch h⟩ c54_2 rfl
theorem c54_5 : qx_code 54 5 = some (5, .return_, 6, 0, 0, 0) := by decide +kernel
theorem s54_5 {L : Nat} {xs : Nat → Int32} {d x : Nat} {M : qxM} {ls : qxL} : Rs L xs (d) 54 5 ls [] M x = some (.inl none, M, x) := Rs_ret c54_5 rfl
theorem c55_0 : qx_code 55 0 = some (0, .aload_n 0, 1, 0, 0, 0) := by decide +kernel
theorem s55_0 {L : Nat} {xs : Nat → Int32} {d x : Nat} {M : qxM} {st : List Value} {a1 : Option Value} {z : Nat} : Rs L xs (d) 55 0 [some (.ref z), a1] st M x = Rs L xs (d) 55 1 [some (.ref z), a1] (.ref z :: st) M x := Rs_next c55_0 rfl
theorem c55_1 : qx_code 55 1 = some (1, .aload_n 1, 2, 0, 0, 0) := by decide +kernel
theorem s55_1 {L : Nat} {xs : Nat → Int32} {d x : Nat} {M : qxM} {st : List Value} {a0 : Option Value} {z : Nat} : Rs L xs (d) 55 1 [a0, some (.ref z)] st M x = Rs L xs (d) 55 2 [a0, some (.ref z)] (.ref z :: st) M x := Rs_next c55_1 rfl
theorem c55_2 : qx_code 55 2 = some (2, .getfield 34, 5, 3, 0, 296) := by decide +kernel
theorem s55_2 {L : Nat} {xs : Nat → Int32} {d x : Nat} {M : qxM} {st : List Value} {ls : qxL} {t : Nat} (hk : qx_kd t = 13) : Rs L xs (d) 55 2 ls (.ref t :: st) M x = Rs L xs (d) 55 5 ls (.int (M.1 t 0) :: st) M x := Rs_when (qx_kd_obj (k := 3) (by decide) hk) c55_2 rfl
theorem c55_5 : qx_code 55 5 = some (5, .putfield 34, 8, 3, 0, 296) := by decide +kernel
theorem s55_5 {L : Nat} {xs : Nat → Int32} {d x : Nat} {M : qxM} {st : List Value} {ls : qxL} {t : Nat} {z : Int32} (hk : qx_kd t = 13) : Rs L xs (d) 55 5 ls (.int z :: .ref t :: st) M x = Rs L xs (d) 55 8 ls st (qx_up M t 0 z) x := Rs_when (cnd := qx_sh t = some (.inl 3) ∧ qx_fo 3 0 = none ∧ (qx_bf 3 0 = true → z = 0 ∨ z = 1)) ⟨qx_kd_obj (k := 3) (by decide) hk, rfl, fun h => nomatch h⟩ c55_5 rfl
theorem c55_8 : qx_code 55 8 = some (8, .aload_n 0, 9, 0, 0, 0) := by decide +kernel
theorem s55_8 {L : Nat} {xs : Nat → Int32} {d x : Nat} {M : qxM} {st : List Value} {a1 : Option Value} {z : Nat} : Rs L xs (d) 55 8 [some (.ref z), a1] st M x = Rs L xs (d) 55 9 [some (.ref z), a1] (.ref z :: st) M x := Rs_next c55_8 rfl
theorem c55_9 : qx_code 55 9 = some (9, .aload_n 1, 10, 0, 0, 0) := by decide +kernel
theorem s55_9 {L : Nat} {xs : Nat → Int32} {d x : Nat} {M : qxM} {st : List Value} {a0 : Option Value} {z : Nat} : Rs L xs (d) 55 9 [a0, some (.ref z)] st M x = Rs L xs (d) 55 10 [a0, some (.ref z)] (.ref z :: st) M x := Rs_next c55_9 rfl
theorem c55_10 : qx_code 55 10 = some (10, .getfield 38, 13, 3, 1, 299) := by decide +kernel
theorem s55_10 {L : Nat} {xs : Nat → Int32} {d x : Nat} {M : qxM} {st : List Value} {ls : qxL} {t : Nat} (hk : qx_kd t = 13) : Rs L xs (d) 55 10 ls (.ref t :: st) M x = Rs L xs (d) 55 13 ls (.int (M.1 t 1) :: st) M x := Rs_when (qx_kd_obj (k := 3) (by decide) hk) c55_10 rfl
theorem c55_13 : qx_code 55 13 = some (13, .putfield 38, 16, 3, 1, 299) := by decide +kernel
theorem s55_13 {L : Nat} {xs : Nat → Int32} {d x : Nat} {M : qxM} {st : List Value} {ls : qxL} {t : Nat} {z : Int32} (hk : qx_kd t = 13) : Rs L xs (d) 55 13 ls (.int z :: .ref t :: st) M x = Rs L xs (d) 55 16 ls st (qx_up M t 1 z) x := Rs_when (cnd := qx_sh t = some (.inl 3) ∧ qx_fo 3 1 = none ∧ (qx_bf 3 1 = true → z = 0 ∨ z = 1)) ⟨qx_kd_obj (k := 3) (by decide) hk, rfl, fun h => nomatch h⟩ c55_13 rfl
theorem c55_16 : qx_code 55 16 = some (16, .aload_n 0, 17, 0, 0, 0) := by decide +kernel
theorem s55_16 {L : Nat} {xs : Nat → Int32} {d x : Nat} {M : qxM} {st : List Value} {a1 : Option Value} {z : Nat} : Rs L xs (d) 55 16 [some (.ref z), a1] st M x = Rs L xs (d) 55 17 [some (.ref z), a1] (.ref z :: st) M x := Rs_next c55_16 rfl
theorem c55_17 : qx_code 55 17 = some (17, .aload_n 1, 18, 0, 0, 0) := by decide +kernel
theorem s55_17 {L : Nat} {xs : Nat → Int32} {d x : Nat} {M : qxM} {st : List Value} {a0 : Option Value} {z : Nat} : Rs L xs (d) 55 17 [a0, some (.ref z)] st M x = Rs L xs (d) 55 18 [a0, some (.ref z)] (.ref z :: st) M x := Rs_next c55_17 rfl
theorem c55_18 : qx_code 55 18 = some (18, .getfield 41, 21, 3, 2, 301) := by decide +kernel
theorem s55_18 {L : Nat} {xs : Nat → Int32} {d x : Nat} {M : qxM} {st : List Value} {ls : qxL} {t : Nat} (hk : qx_kd t = 13) : Rs L xs (d) 55 18 ls (.ref t :: st) M x = Rs L xs (d) 55 21 ls (.int (M.1 t 2) :: st) M x := Rs_when (qx_kd_obj (k := 3) (by decide) hk) c55_18 rfl
theorem c55_21 : qx_code 55 21 = some (21, .putfield 41, 24, 3, 2, 301) := by decide +kernel
theorem s55_21 {L : Nat} {xs : Nat → Int32} {d x : Nat} {M : qxM} {st : List Value} {ls : qxL} {t : Nat} {z : Int32} (hk : qx_kd t = 13) : Rs L xs (d) 55 21 ls (.int z :: .ref t :: st) M x = Rs L xs (d) 55 24 ls st (qx_up M t 2 z) x := Rs_when (cnd := qx_sh t = some (.inl 3) ∧ qx_fo 3 2 = none ∧ (qx_bf 3 2 = true → z = 0 ∨ z = 1)) ⟨qx_kd_obj (k := 3) (by decide) hk, rfl, fun h => nomatch h⟩ c55_21 rfl
theorem c55_24 : qx_code 55 24 = some (24, .aload_n 0, 25, 0, 0, 0) := by decide +kernel
theorem s55_24 {L : Nat} {xs : Nat → Int32} {d x : Nat} {M : qxM} {st : List Value} {a1 : Option Value} {z : Nat} : Rs L xs (d) 55 24 [some (.ref z), a1] st M x = Rs L xs (d) 55 25 [some (.ref z), a1] (.ref z :: st) M x := Rs_next c55_24 rfl
theorem c55_25 : qx_code 55 25 = some (25, .aload_n 1, 26, 0, 0, 0) := by decide +kernel
theorem s55_25 {L : Nat} {xs : Nat → Int32} {d x : Nat} {M : qxM} {st : List Value} {a0 : Option Value} {z : Nat} : Rs L xs (d) 55 25 [a0, some (.ref z)] st M x = Rs L xs (d) 55 26 [a0, some (.ref z)] (.ref z :: st) M x := Rs_next c55_25 rfl
theorem c55_26 : qx_code 55 26 = some (26, .getfield 44, 29, 3, 3, 304) := by decide +kernel
theorem s55_26 {L : Nat} {xs : Nat → Int32} {d x : Nat} {M : qxM} {st : List Value} {ls : qxL} {t : Nat} (hk : qx_kd t = 13) : Rs L xs (d) 55 26 ls (.ref t :: st) M x = Rs L xs (d) 55 29 ls (.int (M.1 t 3) :: st) M x := Rs_when (qx_kd_obj (k := 3) (by decide) hk) c55_26 rfl
theorem c55_29 : qx_code 55 29 = some (29, .putfield 44, 32, 3, 3, 304) := by decide +kernel
theorem s55_29 {L : Nat} {xs : Nat → Int32} {d x : Nat} {M : qxM} {st : List Value} {ls : qxL} {t : Nat} {z : Int32} (hk : qx_kd t = 13) : Rs L xs (d) 55 29 ls (.int z :: .ref t :: st) M x = Rs L xs (d) 55 32 ls st (qx_up M t 3 z) x := Rs_when (cnd := qx_sh t = some (.inl 3) ∧ qx_fo 3 3 = none ∧ (qx_bf 3 3 = true → z = 0 ∨ z = 1)) ⟨qx_kd_obj (k := 3) (by decide) hk, rfl, fun h => nomatch h⟩ c55_29 rfl
theorem c55_32 : qx_code 55 32 = some (32, .aload_n 0, 33, 0, 0, 0) := by decide +kernel
theorem s55_32 {L : Nat} {xs : Nat → Int32} {d x : Nat} {M : qxM} {st : List Value} {a1 : Option Value} {z : Nat} : Rs L xs (d) 55 32 [some (.ref z), a1] st M x = Rs L xs (d) 55 33 [some (.ref z), a1] (.ref z :: st) M x := Rs_next c55_32 rfl
theorem c55_33 : qx_code 55 33 = some (33, .aload_n 1, 34, 0, 0, 0) := by decide +kernel
theorem s55_33 {L : Nat} {xs : Nat → Int32} {d x : Nat} {M : qxM} {st : List Value} {a0 : Option Value} {z : Nat} : Rs L xs (d) 55 33 [a0, some (.ref z)] st M x = Rs L xs (d) 55 34 [a0, some (.ref z)] (.ref z :: st) M x := Rs_next c55_33 rfl
theorem c55_34 : qx_code 55 34 = some (34, .getfield 47, 37, 3, 4, 307) := by decide +kernel
theorem s55_34 {L : Nat} {xs : Nat → Int32} {d x : Nat} {M : qxM} {st : List Value} {ls : qxL} {t : Nat} (hk : qx_kd t = 13) : Rs L xs (d) 55 34 ls (.ref t :: st) M x = Rs L xs (d) 55 37 ls (.int (M.1 t 4) :: st) M x := Rs_when (qx_kd_obj (k := 3) (by decide) hk) c55_34 rfl
theorem c55_37 : qx_code 55 37 = some (37, .putfield 47, 40, 3, 4, 307) := by decide +kernel
theorem s55_37 {L : Nat} {xs : Nat → Int32} {d x : Nat} {M : qxM} {st : List Value} {ls : qxL} {t : Nat} {z : Int32} (hk : qx_kd t = 13) : Rs L xs (d) 55 37 ls (.int z :: .ref t :: st) M x = Rs L xs (d) 55 40 ls st (qx_up M t 4 z) x := Rs_when (cnd := qx_sh t = some (.inl 3) ∧ qx_fo 3 4 = none ∧ (qx_bf 3 4 = true → z = 0 ∨ z = 1)) ⟨qx_kd_obj (k := 3) (by decide) hk, rfl, fun h => nomatch h⟩ c55_37 rfl
theorem c55_40 : qx_code 55 40 = some (40, .aload_n 0, 41, 0, 0, 0) := by decide +kernel
theorem s55_40 {L : Nat} {xs : Nat → Int32} {d x : Nat} {M : qxM} {st : List Value} {a1 : Option Value} {z : Nat} : Rs L xs (d) 55 40 [some (.ref z), a1] st M x = Rs L xs (d) 55 41 [some (.ref z), a1] (.ref z :: st) M x := Rs_next c55_40 rfl
theorem c55_41 : qx_code 55 41 = some (41, .aload_n 1, 42, 0, 0, 0) := by decide +kernel
theorem s55_41 {L : Nat} {xs : Nat → Int32} {d x : Nat} {M : qxM} {st : List Value} {a0 : Option Value} {z : Nat} : Rs L xs (d) 55 41 [a0, some (.ref z)] st M x = Rs L xs (d) 55 42 [a0, some (.ref z)] (.ref z :: st) M x := Rs_next c55_41 rfl
theorem c55_42 : qx_code 55 42 = some (42, .getfield 50, 45, 3, 5, 309) := by decide +kernel
theorem s55_42 {L : Nat} {xs : Nat → Int32} {d x : Nat} {M : qxM} {st : List Value} {ls : qxL} {t : Nat} (hk : qx_kd t = 13) : Rs L xs (d) 55 42 ls (.ref t :: st) M x = Rs L xs (d) 55 45 ls (.int (M.1 t 5) :: st) M x := Rs_when (qx_kd_obj (k := 3) (by decide) hk) c55_42 rfl
theorem c55_45 : qx_code 55 45 = some (45, .putfield 50, 48, 3, 5, 309) := by decide +kernel
theorem s55_45 {L : Nat} {xs : Nat → Int32} {d x : Nat} {M : qxM} {st : List Value} {ls : qxL} {t : Nat} {z : Int32} (hk : qx_kd t = 13) : Rs L xs (d) 55 45 ls (.int z :: .ref t :: st) M x = Rs L xs (d) 55 48 ls st (qx_up M t 5 z) x := Rs_when (cnd := qx_sh t = some (.inl 3) ∧ qx_fo 3 5 = none ∧ (qx_bf 3 5 = true → z = 0 ∨ z = 1)) ⟨qx_kd_obj (k := 3) (by decide) hk, rfl, fun h => nomatch h⟩ c55_45 rfl
theorem c55_48 : qx_code 55 48 = some (48, .aload_n 0, 49, 0, 0, 0) := by decide +kernel
theorem s55_48 {L : Nat} {xs : Nat → Int32} {d x : Nat} {M : qxM} {st : List Value} {a1 : Option Value} {z : Nat} : Rs L xs (d) 55 48 [some (.ref z), a1] st M x = Rs L xs (d) 55 49 [some (.ref z), a1] (.ref z :: st) M x := Rs_next c55_48 rfl
theorem c55_49 : qx_code 55 49 = some (49, .aload_n 1, 50, 0, 0, 0) := by decide +kernel
theorem s55_49 {L : Nat} {xs : Nat → Int32} {d x : Nat} {M : qxM} {st : List Value} {a0 : Option Value} {z : Nat} : Rs L xs (d) 55 49 [a0, some (.ref z)] st M x = Rs L xs (d) 55 50 [a0, some (.ref z)] (.ref z :: st) M x := Rs_next c55_49 rfl
theorem c55_50 : qx_code 55 50 = some (50, .getfield 53, 53, 3, 6, 311) := by decide +kernel
theorem s55_50 {L : Nat} {xs : Nat → Int32} {d x : Nat} {M : qxM} {st : List Value} {ls : qxL} {t : Nat} (hk : qx_kd t = 13) : Rs L xs (d) 55 50 ls (.ref t :: st) M x = Rs L xs (d) 55 53 ls (.int (M.1 t 6) :: st) M x := Rs_when (qx_kd_obj (k := 3) (by decide) hk) c55_50 rfl
theorem c55_53 : qx_code 55 53 = some (53, .putfield 53, 56, 3, 6, 311) := by decide +kernel
theorem s55_53 {L : Nat} {xs : Nat → Int32} {d x : Nat} {M : qxM} {st : List Value} {ls : qxL} {t : Nat} {z : Int32} (hk : qx_kd t = 13) : Rs L xs (d) 55 53 ls (.int z :: .ref t :: st) M x = Rs L xs (d) 55 56 ls st (qx_up M t 6 z) x := Rs_when (cnd := qx_sh t = some (.inl 3) ∧ qx_fo 3 6 = none ∧ (qx_bf 3 6 = true → z = 0 ∨ z = 1)) ⟨qx_kd_obj (k := 3) (by decide) hk, rfl, fun h => nomatch h⟩ c55_53 rfl
theorem c55_56 : qx_code 55 56 = some (56, .aload_n 0, 57, 0, 0, 0) := by decide +kernel
theorem s55_56 {L : Nat} {xs : Nat → Int32} {d x : Nat} {M : qxM} {st : List Value} {a1 : Option Value} {z : Nat} : Rs L xs (d) 55 56 [some (.ref z), a1] st M x = Rs L xs (d) 55 57 [some (.ref z), a1] (.ref z :: st) M x := Rs_next c55_56 rfl
theorem c55_57 : qx_code 55 57 = some (57, .aload_n 1, 58, 0, 0, 0) := by decide +kernel
theorem s55_57 {L : Nat} {xs : Nat → Int32} {d x : Nat} {M : qxM} {st : List Value} {a0 : Option Value} {z : Nat} : Rs L xs (d) 55 57 [a0, some (.ref z)] st M x = Rs L xs (d) 55 58 [a0, some (.ref z)] (.ref z :: st) M x := Rs_next c55_57 rfl
theorem c55_58 : qx_code 55 58 = some (58, .getfield 56, 61, 3, 7, 312) := by decide +kernel
theorem s55_58 {L : Nat} {xs : Nat → Int32} {d x : Nat} {M : qxM} {st : List Value} {ls : qxL} {t : Nat} (hk : qx_kd t = 13) : Rs L xs (d) 55 58 ls (.ref t :: st) M x = Rs L xs (d) 55 61 ls (.int (M.1 t 7) :: st) M x := Rs_when (qx_kd_obj (k := 3) (by decide) hk) c55_58 rfl
theorem c55_61 : qx_code 55 61 = some (61, .putfield 56, 64, 3, 7, 312) := by decide +kernel
theorem s55_61 {L : Nat} {xs : Nat → Int32} {d x : Nat} {M : qxM} {st : List Value} {ls : qxL} {t : Nat} {z : Int32} (hk : qx_kd t = 13) : Rs L xs (d) 55 61 ls (.int z :: .ref t :: st) M x = Rs L xs (d) 55 64 ls st (qx_up M t 7 z) x := Rs_when (cnd := qx_sh t = some (.inl 3) ∧ qx_fo 3 7 = none ∧ (qx_bf 3 7 = true → z = 0 ∨ z = 1)) ⟨qx_kd_obj (k := 3) (by decide) hk, rfl, fun h => nomatch h⟩ c55_61 rfl
theorem c55_64 : qx_code 55 64 = some (64, .aload_n 0, 65, 0, 0, 0) := by decide +kernel
theorem s55_64 {L : Nat} {xs : Nat → Int32} {d x : Nat} {M : qxM} {st : List Value} {a1 : Option Value} {z : Nat} : Rs L xs (d) 55 64 [some (.ref z), a1] st M x = Rs L xs (d) 55 65 [some (.ref z), a1] (.ref z :: st) M x := Rs_next c55_64 rfl
theorem c55_65 : qx_code 55 65 = some (65, .aload_n 1, 66, 0, 0, 0) := by decide +kernel
theorem s55_65 {L : Nat} {xs : Nat → Int32} {d x : Nat} {M : qxM} {st : List Value} {a0 : Option Value} {z : Nat} : Rs L xs (d) 55 65 [a0, some (.ref z)] st M x = Rs L xs (d) 55 66 [a0, some (.ref z)] (.ref z :: st) M x := Rs_next c55_65 rfl
theorem c55_66 : qx_code 55 66 = some (66, .getfield 59, 69, 3, 8, 313) := by decide +kernel
theorem s55_66 {L : Nat} {xs : Nat → Int32} {d x : Nat} {M : qxM} {st : List Value} {ls : qxL} {t : Nat} (hk : qx_kd t = 13) : Rs L xs (d) 55 66 ls (.ref t :: st) M x = Rs L xs (d) 55 69 ls (.int (M.1 t 8) :: st) M x := Rs_when (qx_kd_obj (k := 3) (by decide) hk) c55_66 rfl
theorem c55_69 : qx_code 55 69 = some (69, .putfield 59, 72, 3, 8, 313) := by decide +kernel
theorem s55_69 {L : Nat} {xs : Nat → Int32} {d x : Nat} {M : qxM} {st : List Value} {ls : qxL} {t : Nat} {z : Int32} (hk : qx_kd t = 13) : Rs L xs (d) 55 69 ls (.int z :: .ref t :: st) M x = Rs L xs (d) 55 72 ls st (qx_up M t 8 z) x := Rs_when (cnd := qx_sh t = some (.inl 3) ∧ qx_fo 3 8 = none ∧ (qx_bf 3 8 = true → z = 0 ∨ z = 1)) ⟨qx_kd_obj (k := 3) (by decide) hk, rfl, fun h => nomatch h⟩ c55_69 rfl
theorem c55_72 : qx_code 55 72 = some (72, .aload_n 1, 73, 0, 0, 0) := by decide +kernel
theorem s55_72 {L : Nat} {xs : Nat → Int32} {d x : Nat} {M : qxM} {st : List Value} {a0 : Option Value} {z : Nat} : Rs L xs (d) 55 72 [a0, some (.ref z)] st M x = Rs L xs (d) 55 73 [a0, some (.ref z)] (.ref z :: st) M x := Rs_next c55_72 rfl
theorem c55_73 : qx_code 55 73 = some (73, .getfield 9, 76, 3, 9, 314) := by decide +kernel
theorem s55_73 {L : Nat} {xs : Nat → Int32} {d x : Nat} {M : qxM} {st : List Value} {ls : qxL} {t : Nat} (hk : qx_kd t = 13) : Rs L xs (d) 55 73 ls (.ref t :: st) M x = Rs L xs (d) 55 76 ls (.ref (t + 1) :: st) M x := Rs_when (qx_kd_obj (k := 3) (by decide) hk) c55_73 rfl
theorem c55_76 : qx_code 55 76 = some (76, .aload_n 0, 77, 0, 0, 0) := by decide +kernel
theorem s55_76 {L : Nat} {xs : Nat → Int32} {d x : Nat} {M : qxM} {st : List Value} {a1 : Option Value} {z : Nat} : Rs L xs (d) 55 76 [some (.ref z), a1] st M x = Rs L xs (d) 55 77 [some (.ref z), a1] (.ref z :: st) M x := Rs_next c55_76 rfl
theorem c55_77 : qx_code 55 77 = some (77, .getfield 9, 80, 3, 9, 314) := by decide +kernel
theorem s55_77 {L : Nat} {xs : Nat → Int32} {d x : Nat} {M : qxM} {st : List Value} {ls : qxL} {t : Nat} (hk : qx_kd t = 13) : Rs L xs (d) 55 77 ls (.ref t :: st) M x = Rs L xs (d) 55 80 ls (.ref (t + 1) :: st) M x := Rs_when (qx_kd_obj (k := 3) (by decide) hk) c55_77 rfl
theorem c55_80 : qx_code 55 80 = some (80, .invokestatic 81, 83, 176, 2, 1421) := by decide +kernel
theorem s55_80 {L : Nat} {xs : Nat → Int32} {d x : Nat} {M : qxM} {st : List Value} {ls : qxL} {z0 : Nat} {z1 : Nat} (hs : st.length ≤ 4) : Rs L xs (d + 1) 55 80 ls (.ref z1 :: .ref z0 :: st) M x = (Rs L xs d 176 0 [some (.ref z0), some (.ref z1)] [] M 0).bind (qx_kn L xs (d + 1) 55 80 83 176 ls st x) := by
  have h1 : qx_act L xs (qx_rt 55) (80, .invokestatic 81, 83, 176, 2, 1421) ls (.ref z1 :: .ref z0 :: st) M = if 2 ≤ (.ref z1 :: .ref z0 :: st).length ∧ st.length ≤ 4 then some (.inr (.inr (.inr (176, [.ref z0, .ref z1], st)))) else none := rfl
  rw [if_pos ⟨by simp [List.length_cons]; try omega, hs⟩] at h1
  exact Rs_call c55_80 h1 rfl
theorem c55_83 : qx_code 55 83 = some (83, .aload_n 1, 84, 0, 0, 0) := by decide +kernel
theorem s55_83 {L : Nat} {xs : Nat → Int32} {d x : Nat} {M : qxM} {st : List Value} {a0 : Option Value} {z : Nat} : Rs L xs (d) 55 83 [a0, some (.ref z)] st M x = Rs L xs (d) 55 84 [a0, some (.ref z)] (.ref z :: st) M x := Rs_next c55_83 rfl
theorem c55_84 : qx_code 55 84 = some (84, .getfield 15, 87, 3, 10, 315) := by decide +kernel
theorem s55_84 {L : Nat} {xs : Nat → Int32} {d x : Nat} {M : qxM} {st : List Value} {ls : qxL} {t : Nat} (hk : qx_kd t = 13) : Rs L xs (d) 55 84 ls (.ref t :: st) M x = Rs L xs (d) 55 87 ls (.ref (t + 2) :: st) M x := Rs_when (qx_kd_obj (k := 3) (by decide) hk) c55_84 rfl
theorem c55_87 : qx_code 55 87 = some (87, .aload_n 0, 88, 0, 0, 0) := by decide +kernel
theorem s55_87 {L : Nat} {xs : Nat → Int32} {d x : Nat} {M : qxM} {st : List Value} {a1 : Option Value} {z : Nat} : Rs L xs (d) 55 87 [some (.ref z), a1] st M x = Rs L xs (d) 55 88 [some (.ref z), a1] (.ref z :: st) M x := Rs_next c55_87 rfl
theorem c55_88 : qx_code 55 88 = some (88, .getfield 15, 91, 3, 10, 315) := by decide +kernel
theorem s55_88 {L : Nat} {xs : Nat → Int32} {d x : Nat} {M : qxM} {st : List Value} {ls : qxL} {t : Nat} (hk : qx_kd t = 13) : Rs L xs (d) 55 88 ls (.ref t :: st) M x = Rs L xs (d) 55 91 ls (.ref (t + 2) :: st) M x := Rs_when (qx_kd_obj (k := 3) (by decide) hk) c55_88 rfl
theorem c55_91 : qx_code 55 91 = some (91, .invokestatic 81, 94, 176, 2, 1421) := by decide +kernel
theorem s55_91 {L : Nat} {xs : Nat → Int32} {d x : Nat} {M : qxM} {st : List Value} {ls : qxL} {z0 : Nat} {z1 : Nat} (hs : st.length ≤ 4) : Rs L xs (d + 1) 55 91 ls (.ref z1 :: .ref z0 :: st) M x = (Rs L xs d 176 0 [some (.ref z0), some (.ref z1)] [] M 0).bind (qx_kn L xs (d + 1) 55 91 94 176 ls st x) := by
  have h1 : qx_act L xs (qx_rt 55) (91, .invokestatic 81, 94, 176, 2, 1421) ls (.ref z1 :: .ref z0 :: st) M = if 2 ≤ (.ref z1 :: .ref z0 :: st).length ∧ st.length ≤ 4 then some (.inr (.inr (.inr (176, [.ref z0, .ref z1], st)))) else none := rfl
  rw [if_pos ⟨by simp [List.length_cons]; try omega, hs⟩] at h1
  exact Rs_call c55_91 h1 rfl
theorem c55_94 : qx_code 55 94 = some (94, .aload_n 1, 95, 0, 0, 0) := by decide +kernel
theorem s55_94 {L : Nat} {xs : Nat → Int32} {d x : Nat} {M : qxM} {st : List Value} {a0 : Option Value} {z : Nat} : Rs L xs (d) 55 94 [a0, some (.ref z)] st M x = Rs L xs (d) 55 95 [a0, some (.ref z)] (.ref z :: st) M x := Rs_next c55_94 rfl
theorem c55_95 : qx_code 55 95 = some (95, .getfield 18, 98, 3, 11, 316) := by decide +kernel
theorem s55_95 {L : Nat} {xs : Nat → Int32} {d x : Nat} {M : qxM} {st : List Value} {ls : qxL} {t : Nat} (hk : qx_kd t = 13) : Rs L xs (d) 55 95 ls (.ref t :: st) M x = Rs L xs (d) 55 98 ls (.ref (t + 3) :: st) M x := Rs_when (qx_kd_obj (k := 3) (by decide) hk) c55_95 rfl
theorem c55_98 : qx_code 55 98 = some (98, .aload_n 0, 99, 0, 0, 0) := by decide +kernel
theorem s55_98 {L : Nat} {xs : Nat → Int32} {d x : Nat} {M : qxM} {st : List Value} {a1 : Option Value} {z : Nat} : Rs L xs (d) 55 98 [some (.ref z), a1] st M x = Rs L xs (d) 55 99 [some (.ref z), a1] (.ref z :: st) M x := Rs_next c55_98 rfl
theorem c55_99 : qx_code 55 99 = some (99, .getfield 18, 102, 3, 11, 316) := by decide +kernel
theorem s55_99 {L : Nat} {xs : Nat → Int32} {d x : Nat} {M : qxM} {st : List Value} {ls : qxL} {t : Nat} (hk : qx_kd t = 13) : Rs L xs (d) 55 99 ls (.ref t :: st) M x = Rs L xs (d) 55 102 ls (.ref (t + 3) :: st) M x := Rs_when (qx_kd_obj (k := 3) (by decide) hk) c55_99 rfl
theorem c55_102 : qx_code 55 102 = some (102, .invokestatic 81, 105, 176, 2, 1421) := by decide +kernel
theorem s55_102 {L : Nat} {xs : Nat → Int32} {d x : Nat} {M : qxM} {st : List Value} {ls : qxL} {z0 : Nat} {z1 : Nat} (hs : st.length ≤ 4) : Rs L xs (d + 1) 55 102 ls (.ref z1 :: .ref z0 :: st) M x = (Rs L xs d 176 0 [some (.ref z0), some (.ref z1)] [] M 0).bind (qx_kn L xs (d + 1) 55 102 105 176 ls st x) := by
  have h1 : qx_act L xs (qx_rt 55) (102, .invokestatic 81, 105, 176, 2, 1421) ls (.ref z1 :: .ref z0 :: st) M = if 2 ≤ (.ref z1 :: .ref z0 :: st).length ∧ st.length ≤ 4 then some (.inr (.inr (.inr (176, [.ref z0, .ref z1], st)))) else none := rfl
  rw [if_pos ⟨by simp [List.length_cons]; try omega, hs⟩] at h1
  exact Rs_call c55_102 h1 rfl
theorem c55_105 : qx_code 55 105 = some (105, .aload_n 1, 106, 0, 0, 0) := by decide +kernel
theorem s55_105 {L : Nat} {xs : Nat → Int32} {d x : Nat} {M : qxM} {st : List Value} {a0 : Option Value} {z : Nat} : Rs L xs (d) 55 105 [a0, some (.ref z)] st M x = Rs L xs (d) 55 106 [a0, some (.ref z)] (.ref z :: st) M x := Rs_next c55_105 rfl
theorem c55_106 : qx_code 55 106 = some (106, .getfield 21, 109, 3, 12, 318) := by decide +kernel
theorem s55_106 {L : Nat} {xs : Nat → Int32} {d x : Nat} {M : qxM} {st : List Value} {ls : qxL} {t : Nat} (hk : qx_kd t = 13) : Rs L xs (d) 55 106 ls (.ref t :: st) M x = Rs L xs (d) 55 109 ls (.ref (t + 4) :: st) M x := Rs_when (qx_kd_obj (k := 3) (by decide) hk) c55_106 rfl
theorem c55_109 : qx_code 55 109 = some (109, .aload_n 0, 110, 0, 0, 0) := by decide +kernel
theorem s55_109 {L : Nat} {xs : Nat → Int32} {d x : Nat} {M : qxM} {st : List Value} {a1 : Option Value} {z : Nat} : Rs L xs (d) 55 109 [some (.ref z), a1] st M x = Rs L xs (d) 55 110 [some (.ref z), a1] (.ref z :: st) M x := Rs_next c55_109 rfl
theorem c55_110 : qx_code 55 110 = some (110, .getfield 21, 113, 3, 12, 318) := by decide +kernel
theorem s55_110 {L : Nat} {xs : Nat → Int32} {d x : Nat} {M : qxM} {st : List Value} {ls : qxL} {t : Nat} (hk : qx_kd t = 13) : Rs L xs (d) 55 110 ls (.ref t :: st) M x = Rs L xs (d) 55 113 ls (.ref (t + 4) :: st) M x := Rs_when (qx_kd_obj (k := 3) (by decide) hk) c55_110 rfl
theorem c55_113 : qx_code 55 113 = some (113, .invokestatic 81, 116, 176, 2, 1421) := by decide +kernel
theorem s55_113 {L : Nat} {xs : Nat → Int32} {d x : Nat} {M : qxM} {st : List Value} {ls : qxL} {z0 : Nat} {z1 : Nat} (hs : st.length ≤ 4) : Rs L xs (d + 1) 55 113 ls (.ref z1 :: .ref z0 :: st) M x = (Rs L xs d 176 0 [some (.ref z0), some (.ref z1)] [] M 0).bind (qx_kn L xs (d + 1) 55 113 116 176 ls st x) := by
  have h1 : qx_act L xs (qx_rt 55) (113, .invokestatic 81, 116, 176, 2, 1421) ls (.ref z1 :: .ref z0 :: st) M = if 2 ≤ (.ref z1 :: .ref z0 :: st).length ∧ st.length ≤ 4 then some (.inr (.inr (.inr (176, [.ref z0, .ref z1], st)))) else none := rfl
  rw [if_pos ⟨by simp [List.length_cons]; try omega, hs⟩] at h1
  exact Rs_call c55_113 h1 rfl
theorem c55_116 : qx_code 55 116 = some (116, .aload_n 1, 117, 0, 0, 0) := by decide +kernel
theorem s55_116 {L : Nat} {xs : Nat → Int32} {d x : Nat} {M : qxM} {st : List Value} {a0 : Option Value} {z : Nat} : Rs L xs (d) 55 116 [a0, some (.ref z)] st M x = Rs L xs (d) 55 117 [a0, some (.ref z)] (.ref z :: st) M x := Rs_next c55_116 rfl
theorem c55_117 : qx_code 55 117 = some (117, .getfield 24, 120, 3, 13, 320) := by decide +kernel
theorem s55_117 {L : Nat} {xs : Nat → Int32} {d x : Nat} {M : qxM} {st : List Value} {ls : qxL} {t : Nat} (hk : qx_kd t = 13) : Rs L xs (d) 55 117 ls (.ref t :: st) M x = Rs L xs (d) 55 120 ls (.ref (t + 5) :: st) M x := Rs_when (qx_kd_obj (k := 3) (by decide) hk) c55_117 rfl
theorem c55_120 : qx_code 55 120 = some (120, .aload_n 0, 121, 0, 0, 0) := by decide +kernel
theorem s55_120 {L : Nat} {xs : Nat → Int32} {d x : Nat} {M : qxM} {st : List Value} {a1 : Option Value} {z : Nat} : Rs L xs (d) 55 120 [some (.ref z), a1] st M x = Rs L xs (d) 55 121 [some (.ref z), a1] (.ref z :: st) M x := Rs_next c55_120 rfl
theorem c55_121 : qx_code 55 121 = some (121, .getfield 24, 124, 3, 13, 320) := by decide +kernel
theorem s55_121 {L : Nat} {xs : Nat → Int32} {d x : Nat} {M : qxM} {st : List Value} {ls : qxL} {t : Nat} (hk : qx_kd t = 13) : Rs L xs (d) 55 121 ls (.ref t :: st) M x = Rs L xs (d) 55 124 ls (.ref (t + 5) :: st) M x := Rs_when (qx_kd_obj (k := 3) (by decide) hk) c55_121 rfl
theorem c55_124 : qx_code 55 124 = some (124, .invokestatic 81, 127, 176, 2, 1421) := by decide +kernel
theorem s55_124 {L : Nat} {xs : Nat → Int32} {d x : Nat} {M : qxM} {st : List Value} {ls : qxL} {z0 : Nat} {z1 : Nat} (hs : st.length ≤ 4) : Rs L xs (d + 1) 55 124 ls (.ref z1 :: .ref z0 :: st) M x = (Rs L xs d 176 0 [some (.ref z0), some (.ref z1)] [] M 0).bind (qx_kn L xs (d + 1) 55 124 127 176 ls st x) := by
  have h1 : qx_act L xs (qx_rt 55) (124, .invokestatic 81, 127, 176, 2, 1421) ls (.ref z1 :: .ref z0 :: st) M = if 2 ≤ (.ref z1 :: .ref z0 :: st).length ∧ st.length ≤ 4 then some (.inr (.inr (.inr (176, [.ref z0, .ref z1], st)))) else none := rfl
  rw [if_pos ⟨by simp [List.length_cons]; try omega, hs⟩] at h1
  exact Rs_call c55_124 h1 rfl
theorem c55_127 : qx_code 55 127 = some (127, .aload_n 0, 128, 0, 0, 0) := by decide +kernel
theorem s55_127 {L : Nat} {xs : Nat → Int32} {d x : Nat} {M : qxM} {st : List Value} {a1 : Option Value} {z : Nat} : Rs L xs (d) 55 127 [some (.ref z), a1] st M x = Rs L xs (d) 55 128 [some (.ref z), a1] (.ref z :: st) M x := Rs_next c55_127 rfl
theorem c55_128 : qx_code 55 128 = some (128, .getfield 30, 131, 3, 14, 322) := by decide +kernel
theorem s55_128 {L : Nat} {xs : Nat → Int32} {d x : Nat} {M : qxM} {st : List Value} {ls : qxL} {t : Nat} (hk : qx_kd t = 13) : Rs L xs (d) 55 128 ls (.ref t :: st) M x = Rs L xs (d) 55 131 ls (.ref (t + 6) :: st) M x := Rs_when (qx_kd_obj (k := 3) (by decide) hk) c55_128 rfl
theorem c55_131 : qx_code 55 131 = some (131, .aload_n 1, 132, 0, 0, 0) := by decide +kernel
theorem s55_131 {L : Nat} {xs : Nat → Int32} {d x : Nat} {M : qxM} {st : List Value} {a0 : Option Value} {z : Nat} : Rs L xs (d) 55 131 [a0, some (.ref z)] st M x = Rs L xs (d) 55 132 [a0, some (.ref z)] (.ref z :: st) M x := Rs_next c55_131 rfl
theorem c55_132 : qx_code 55 132 = some (132, .getfield 30, 135, 3, 14, 322) := by decide +kernel
theorem s55_132 {L : Nat} {xs : Nat → Int32} {d x : Nat} {M : qxM} {st : List Value} {ls : qxL} {t : Nat} (hk : qx_kd t = 13) : Rs L xs (d) 55 132 ls (.ref t :: st) M x = Rs L xs (d) 55 135 ls (.ref (t + 6) :: st) M x := Rs_when (qx_kd_obj (k := 3) (by decide) hk) c55_132 rfl
theorem c55_135 : qx_code 55 135 = some (135, .invokevirtual 85, 138, 86, 2, 1422) := by decide +kernel
theorem s55_135 {L : Nat} {xs : Nat → Int32} {d x : Nat} {M : qxM} {st : List Value} {ls : qxL} {t : Nat} {z0 : Nat} (hk : qx_kd t = 16) (hs : st.length ≤ 4) : Rs L xs (d + 1) 55 135 ls (.ref z0 :: .ref t :: st) M x = (Rs L xs d 86 0 [some (.ref t), some (.ref z0)] [] M 0).bind (qx_kn L xs (d + 1) 55 135 138 86 ls st x) := by
  have h1 : qx_act L xs (qx_rt 55) (135, .invokevirtual 85, 138, 86, 2, 1422) ls (.ref z0 :: .ref t :: st) M = if 2 ≤ (.ref z0 :: .ref t :: st).length ∧ st.length ≤ 4 then some (.inr (.inr (.inr (86, [.ref t, .ref z0], st)))) else none := rfl
  rw [if_pos ⟨by simp [List.length_cons]; try omega, hs⟩] at h1
  have h2 := qx_kd_obj (k := 6) (by decide) hk
  exact Rs_call c55_135 h1 (by rw [show qx_args 86 [.ref t, .ref z0] = decide (qx_sh t = some (.inl 6)) from rfl]; exact decide_eq_true h2)
theorem c55_138 : qx_code 55 138 = some (138, .return_, 139, 0, 0, 0) := by decide +kernel
theorem s55_138 {L : Nat} {xs : Nat → Int32} {d x : Nat} {M : qxM} {ls : qxL} : Rs L xs (d) 55 138 ls [] M x = some (.inl none, M, x) := Rs_ret c55_138 rfl
theorem c56_0 : qx_code 56 0 = some (0, .aload_n 0, 1, 0, 0, 0) := by decide +kernel
theorem s56_0 {L : Nat} {xs : Nat → Int32} {d x : Nat} {M : qxM} {st : List Value} {z : Nat} : Rs L xs (d) 56 0 [some (.ref z)] st M x = Rs L xs (d) 56 1 [some (.ref z)] (.ref z :: st) M x := Rs_next c56_0 rfl
theorem c56_1 : qx_code 56 1 = some (1, .getfield 34, 4, 3, 0, 296) := by decide +kernel
theorem s56_1 {L : Nat} {xs : Nat → Int32} {d x : Nat} {M : qxM} {st : List Value} {ls : qxL} {t : Nat} (hk : qx_kd t = 13) : Rs L xs (d) 56 1 ls (.ref t :: st) M x = Rs L xs (d) 56 4 ls (.int (M.1 t 0) :: st) M x := Rs_when (qx_kd_obj (k := 3) (by decide) hk) c56_1 rfl
theorem c56_4 : qx_code 56 4 = some (4, .ifCond .eq 7, 7, 11, 0, 0) := by decide +kernel
theorem s56_4 {L : Nat} {xs : Nat → Int32} {d x : Nat} {M : qxM} {st : List Value} {ls : qxL} {z : Int32} : Rs L xs (d) 56 4 ls (.int z :: st) M x = if z = 0 then Rs L xs (d) 56 11 ls st M x else Rs L xs (d) 56 7 ls st M x := Rs_ite c56_4 rfl
theorem c56_7 : qx_code 56 7 = some (7, .iconst 1, 8, 0, 0, 0) := by decide +kernel
theorem s56_7 {L : Nat} {xs : Nat → Int32} {d x : Nat} {M : qxM} {st : List Value} {ls : qxL} : Rs L xs (d) 56 7 ls st M x = Rs L xs (d) 56 8 ls (.int (nI 1) :: st) M x := Rs_next c56_7 rfl
theorem c56_8 : qx_code 56 8 = some (8, .goto 4, 11, 12, 0, 0) := by decide +kernel
theorem s56_8 {L : Nat} {xs : Nat → Int32} {d x : Nat} {M : qxM} {st : List Value} {ls : qxL} : Rs L xs (d) 56 8 ls st M x = Rs L xs (d) 56 12 ls st M x := Rs_next c56_8 rfl
theorem c56_11 : qx_code 56 11 = some (11, .iconst 0, 12, 0, 0, 0) := by decide +kernel
theorem s56_11 {L : Nat} {xs : Nat → Int32} {d x : Nat} {M : qxM} {st : List Value} {ls : qxL} : Rs L xs (d) 56 11 ls st M x = Rs L xs (d) 56 12 ls (.int (nI 0) :: st) M x := Rs_next c56_11 rfl
theorem c56_12 : qx_code 56 12 = some (12, .ireturn, 13, 0, 0, 0) := by decide +kernel
theorem s56_12 {L : Nat} {xs : Nat → Int32} {d x : Nat} {M : qxM} {ls : qxL} {z : Int32} (h01 : z = 0 ∨ z = 1) : Rs L xs (d) 56 12 ls [.int z] M x = some (.inl (some (.int z)), M, x) := Rs_retw h01 c56_12 rfl
theorem c57_0 : qx_code 57 0 = some (0, .aload_n 0, 1, 0, 0, 0) := by decide +kernel
theorem s57_0 {L : Nat} {xs : Nat → Int32} {d x : Nat} {M : qxM} {st : List Value} {a1 : Option Value} {z : Nat} : Rs L xs (d) 57 0 [some (.ref z), a1] st M x = Rs L xs (d) 57 1 [some (.ref z), a1] (.ref z :: st) M x := Rs_next c57_0 rfl
theorem c57_1 : qx_code 57 1 = some (1, .getfield 47, 4, 3, 4, 307) := by decide +kernel
theorem s57_1 {L : Nat} {xs : Nat → Int32} {d x : Nat} {M : qxM} {st : List Value} {ls : qxL} {t : Nat} (hk : qx_kd t = 13) : Rs L xs (d) 57 1 ls (.ref t :: st) M x = Rs L xs (d) 57 4 ls (.int (M.1 t 4) :: st) M x := Rs_when (qx_kd_obj (k := 3) (by decide) hk) c57_1 rfl
theorem c57_4 : qx_code 57 4 = some (4, .iload_n 1, 5, 0, 0, 0) := by decide +kernel
theorem s57_4 {L : Nat} {xs : Nat → Int32} {d x : Nat} {M : qxM} {st : List Value} {a0 : Option Value} {z : Int32} : Rs L xs (d) 57 4 [a0, some (.int z)] st M x = Rs L xs (d) 57 5 [a0, some (.int z)] (.int z :: st) M x := Rs_next c57_4 rfl
theorem c57_5 : qx_code 57 5 = some (5, .invokestatic 89, 8, 170, 2, 876) := by decide +kernel
theorem s57_5 {L : Nat} {xs : Nat → Int32} {d x : Nat} {M : qxM} {st : List Value} {ls : qxL} {z0 : Int32} {z1 : Int32} (hs : st.length ≤ 4) : Rs L xs (d + 1) 57 5 ls (.int z1 :: .int z0 :: st) M x = (Rs L xs d 170 0 [some (.int z0), some (.int z1)] [] M 0).bind (qx_kn L xs (d + 1) 57 5 8 170 ls st x) := by
  have h1 : qx_act L xs (qx_rt 57) (5, .invokestatic 89, 8, 170, 2, 876) ls (.int z1 :: .int z0 :: st) M = if 2 ≤ (.int z1 :: .int z0 :: st).length ∧ st.length ≤ 4 then some (.inr (.inr (.inr (170, [.int z0, .int z1], st)))) else none := rfl
  rw [if_pos ⟨by simp [List.length_cons]; try omega, hs⟩] at h1
  exact Rs_call c57_5 h1 rfl
theorem c57_8 : qx_code 57 8 = some (8, .ifCond .eq 7, 11, 15, 0, 0) := by decide +kernel
theorem s57_8 {L : Nat} {xs : Nat → Int32} {d x : Nat} {M : qxM} {st : List Value} {ls : qxL} {z : Int32} : Rs L xs (d) 57 8 ls (.int z :: st) M x = if z = 0 then Rs L xs (d) 57 15 ls st M x else Rs L xs (d) 57 11 ls st M x := Rs_ite c57_8 rfl
theorem c57_11 : qx_code 57 11 = some (11, .iconst 1, 12, 0, 0, 0) := by decide +kernel
theorem s57_11 {L : Nat} {xs : Nat → Int32} {d x : Nat} {M : qxM} {st : List Value} {ls : qxL} : Rs L xs (d) 57 11 ls st M x = Rs L xs (d) 57 12 ls (.int (nI 1) :: st) M x := Rs_next c57_11 rfl
theorem c57_12 : qx_code 57 12 = some (12, .goto 19, 15, 31, 0, 0) := by decide +kernel
theorem s57_12 {L : Nat} {xs : Nat → Int32} {d x : Nat} {M : qxM} {st : List Value} {ls : qxL} : Rs L xs (d) 57 12 ls st M x = Rs L xs (d) 57 31 ls st M x := Rs_next c57_12 rfl
theorem c57_15 : qx_code 57 15 = some (15, .aload_n 0, 16, 0, 0, 0) := by decide +kernel
theorem s57_15 {L : Nat} {xs : Nat → Int32} {d x : Nat} {M : qxM} {st : List Value} {a1 : Option Value} {z : Nat} : Rs L xs (d) 57 15 [some (.ref z), a1] st M x = Rs L xs (d) 57 16 [some (.ref z), a1] (.ref z :: st) M x := Rs_next c57_15 rfl
theorem c57_16 : qx_code 57 16 = some (16, .getfield 50, 19, 3, 5, 309) := by decide +kernel
theorem s57_16 {L : Nat} {xs : Nat → Int32} {d x : Nat} {M : qxM} {st : List Value} {ls : qxL} {t : Nat} (hk : qx_kd t = 13) : Rs L xs (d) 57 16 ls (.ref t :: st) M x = Rs L xs (d) 57 19 ls (.int (M.1 t 5) :: st) M x := Rs_when (qx_kd_obj (k := 3) (by decide) hk) c57_16 rfl
theorem c57_19 : qx_code 57 19 = some (19, .iload_n 1, 20, 0, 0, 0) := by decide +kernel
theorem s57_19 {L : Nat} {xs : Nat → Int32} {d x : Nat} {M : qxM} {st : List Value} {a0 : Option Value} {z : Int32} : Rs L xs (d) 57 19 [a0, some (.int z)] st M x = Rs L xs (d) 57 20 [a0, some (.int z)] (.int z :: st) M x := Rs_next c57_19 rfl
theorem c57_20 : qx_code 57 20 = some (20, .invokestatic 89, 23, 170, 2, 876) := by decide +kernel
theorem s57_20 {L : Nat} {xs : Nat → Int32} {d x : Nat} {M : qxM} {st : List Value} {ls : qxL} {z0 : Int32} {z1 : Int32} (hs : st.length ≤ 4) : Rs L xs (d + 1) 57 20 ls (.int z1 :: .int z0 :: st) M x = (Rs L xs d 170 0 [some (.int z0), some (.int z1)] [] M 0).bind (qx_kn L xs (d + 1) 57 20 23 170 ls st x) := by
  have h1 : qx_act L xs (qx_rt 57) (20, .invokestatic 89, 23, 170, 2, 876) ls (.int z1 :: .int z0 :: st) M = if 2 ≤ (.int z1 :: .int z0 :: st).length ∧ st.length ≤ 4 then some (.inr (.inr (.inr (170, [.int z0, .int z1], st)))) else none := rfl
  rw [if_pos ⟨by simp [List.length_cons]; try omega, hs⟩] at h1
  exact Rs_call c57_20 h1 rfl
theorem c57_23 : qx_code 57 23 = some (23, .ifCond .eq 7, 26, 30, 0, 0) := by decide +kernel
theorem s57_23 {L : Nat} {xs : Nat → Int32} {d x : Nat} {M : qxM} {st : List Value} {ls : qxL} {z : Int32} : Rs L xs (d) 57 23 ls (.int z :: st) M x = if z = 0 then Rs L xs (d) 57 30 ls st M x else Rs L xs (d) 57 26 ls st M x := Rs_ite c57_23 rfl
theorem c57_26 : qx_code 57 26 = some (26, .iconst 2, 27, 0, 0, 0) := by decide +kernel
theorem s57_26 {L : Nat} {xs : Nat → Int32} {d x : Nat} {M : qxM} {st : List Value} {ls : qxL} : Rs L xs (d) 57 26 ls st M x = Rs L xs (d) 57 27 ls (.int (nI 2) :: st) M x := Rs_next c57_26 rfl
theorem c57_27 : qx_code 57 27 = some (27, .goto 4, 30, 31, 0, 0) := by decide +kernel
theorem s57_27 {L : Nat} {xs : Nat → Int32} {d x : Nat} {M : qxM} {st : List Value} {ls : qxL} : Rs L xs (d) 57 27 ls st M x = Rs L xs (d) 57 31 ls st M x := Rs_next c57_27 rfl
theorem c57_30 : qx_code 57 30 = some (30, .iconst 0, 31, 0, 0, 0) := by decide +kernel
theorem s57_30 {L : Nat} {xs : Nat → Int32} {d x : Nat} {M : qxM} {st : List Value} {ls : qxL} : Rs L xs (d) 57 30 ls st M x = Rs L xs (d) 57 31 ls (.int (nI 0) :: st) M x := Rs_next c57_30 rfl
theorem c57_31 : qx_code 57 31 = some (31, .ireturn, 32, 0, 0, 0) := by decide +kernel
theorem s57_31 {L : Nat} {xs : Nat → Int32} {d x : Nat} {M : qxM} {ls : qxL} {z : Int32} : Rs L xs (d) 57 31 ls [.int z] M x = some (.inl (some (.int z)), M, x) := Rs_ret c57_31 rfl
theorem c58_0 : qx_code 58 0 = some (0, .iload_n 1, 1, 0, 0, 0) := by decide +kernel
theorem s58_0 {L : Nat} {xs : Nat → Int32} {d x : Nat} {M : qxM} {st : List Value} {a0 : Option Value} {z : Int32} : Rs L xs (d) 58 0 [a0, some (.int z)] st M x = Rs L xs (d) 58 1 [a0, some (.int z)] (.int z :: st) M x := Rs_next c58_0 rfl
theorem c58_1 : qx_code 58 1 = some (1, .ifCond .lt 21, 4, 22, 0, 0) := by decide +kernel
theorem s58_1 {L : Nat} {xs : Nat → Int32} {d x : Nat} {M : qxM} {st : List Value} {ls : qxL} {z : Int32} : Rs L xs (d) 58 1 ls (.int z :: st) M x = if z < 0 then Rs L xs (d) 58 22 ls st M x else Rs L xs (d) 58 4 ls st M x := Rs_ite c58_1 rfl
theorem c58_4 : qx_code 58 4 = some (4, .iload_n 1, 5, 0, 0, 0) := by decide +kernel
theorem s58_4 {L : Nat} {xs : Nat → Int32} {d x : Nat} {M : qxM} {st : List Value} {a0 : Option Value} {z : Int32} : Rs L xs (d) 58 4 [a0, some (.int z)] st M x = Rs L xs (d) 58 5 [a0, some (.int z)] (.int z :: st) M x := Rs_next c58_4 rfl
theorem c58_5 : qx_code 58 5 = some (5, .aload_n 0, 6, 0, 0, 0) := by decide +kernel
theorem s58_5 {L : Nat} {xs : Nat → Int32} {d x : Nat} {M : qxM} {st : List Value} {a1 : Option Value} {z : Nat} : Rs L xs (d) 58 5 [some (.ref z), a1] st M x = Rs L xs (d) 58 6 [some (.ref z), a1] (.ref z :: st) M x := Rs_next c58_5 rfl
theorem c58_6 : qx_code 58 6 = some (6, .getfield 15, 9, 3, 10, 315) := by decide +kernel
theorem s58_6 {L : Nat} {xs : Nat → Int32} {d x : Nat} {M : qxM} {st : List Value} {ls : qxL} {t : Nat} (hk : qx_kd t = 13) : Rs L xs (d) 58 6 ls (.ref t :: st) M x = Rs L xs (d) 58 9 ls (.ref (t + 2) :: st) M x := Rs_when (qx_kd_obj (k := 3) (by decide) hk) c58_6 rfl
theorem c58_9 : qx_code 58 9 = some (9, .arraylength, 10, 0, 0, 0) := by decide +kernel
theorem s58_9 {L : Nat} {xs : Nat → Int32} {d x : Nat} {M : qxM} {st : List Value} {ls : qxL} {t : Nat} (hk : qx_kd t < 6) : Rs L xs (d) 58 9 ls (.ref t :: st) M x = Rs L xs (d) 58 10 ls (.int (nI (qx_ln t)) :: st) M x := by
  have h1 := qx_kd_row hk rfl
  exact Rs_next c58_9 (by unfold qx_act; dsimp only; rw [h1]; rfl)
theorem c58_10 : qx_code 58 10 = some (10, .if_icmp .ge 12, 13, 22, 0, 0) := by decide +kernel
theorem s58_10 {L : Nat} {xs : Nat → Int32} {d x : Nat} {M : qxM} {st : List Value} {ls : qxL} {z y : Int32} : Rs L xs (d) 58 10 ls (.int y :: .int z :: st) M x = if y ≤ z then Rs L xs (d) 58 22 ls st M x else Rs L xs (d) 58 13 ls st M x := Rs_ite c58_10 rfl
theorem c58_13 : qx_code 58 13 = some (13, .aload_n 0, 14, 0, 0, 0) := by decide +kernel
theorem s58_13 {L : Nat} {xs : Nat → Int32} {d x : Nat} {M : qxM} {st : List Value} {a1 : Option Value} {z : Nat} : Rs L xs (d) 58 13 [some (.ref z), a1] st M x = Rs L xs (d) 58 14 [some (.ref z), a1] (.ref z :: st) M x := Rs_next c58_13 rfl
theorem c58_14 : qx_code 58 14 = some (14, .getfield 15, 17, 3, 10, 315) := by decide +kernel
theorem s58_14 {L : Nat} {xs : Nat → Int32} {d x : Nat} {M : qxM} {st : List Value} {ls : qxL} {t : Nat} (hk : qx_kd t = 13) : Rs L xs (d) 58 14 ls (.ref t :: st) M x = Rs L xs (d) 58 17 ls (.ref (t + 2) :: st) M x := Rs_when (qx_kd_obj (k := 3) (by decide) hk) c58_14 rfl
theorem c58_17 : qx_code 58 17 = some (17, .iload_n 1, 18, 0, 0, 0) := by decide +kernel
theorem s58_17 {L : Nat} {xs : Nat → Int32} {d x : Nat} {M : qxM} {st : List Value} {a0 : Option Value} {z : Int32} : Rs L xs (d) 58 17 [a0, some (.int z)] st M x = Rs L xs (d) 58 18 [a0, some (.int z)] (.int z :: st) M x := Rs_next c58_17 rfl
theorem c58_18 : qx_code 58 18 = some (18, .iaload, 19, 0, 0, 0) := by decide +kernel
theorem s58_18 {L : Nat} {xs : Nat → Int32} {d x : Nat} {M : qxM} {st : List Value} {ls : qxL} {t : Nat} {j : Int32} (hk : qx_kd t = 0) (hj : qx_ib j (qx_ln t) = true) : Rs L xs (d) 58 18 ls (.int j :: .ref t :: st) M x = Rs L xs (d) 58 19 ls (.int (M.1 t j.toNatClampNeg) :: st) M x := by
  have h1 := qx_kd_row (k := 0) (by decide) hk
  exact Rs_unless (qx_ib_not hj) c58_18 (by unfold qx_act; dsimp only; rw [h1]; rfl)
theorem c58_19 : qx_code 58 19 = some (19, .goto 4, 22, 23, 0, 0) := by decide +kernel
theorem s58_19 {L : Nat} {xs : Nat → Int32} {d x : Nat} {M : qxM} {st : List Value} {ls : qxL} : Rs L xs (d) 58 19 ls st M x = Rs L xs (d) 58 23 ls st M x := Rs_next c58_19 rfl
theorem c58_22 : qx_code 58 22 = some (22, .iconst (-1), 23, 0, 0, 0) := by decide +kernel
theorem s58_22 {L : Nat} {xs : Nat → Int32} {d x : Nat} {M : qxM} {st : List Value} {ls : qxL} : Rs L xs (d) 58 22 ls st M x = Rs L xs (d) 58 23 ls (.int (-1) :: st) M x := Rs_next c58_22 rfl
theorem c58_23 : qx_code 58 23 = some (23, .ireturn, 24, 0, 0, 0) := by decide +kernel
theorem s58_23 {L : Nat} {xs : Nat → Int32} {d x : Nat} {M : qxM} {ls : qxL} {z : Int32} : Rs L xs (d) 58 23 ls [.int z] M x = some (.inl (some (.int z)), M, x) := Rs_ret c58_23 rfl
theorem c59_0 : qx_code 59 0 = some (0, .iconst 0, 1, 0, 0, 0) := by decide +kernel
theorem s59_0 {L : Nat} {xs : Nat → Int32} {d x : Nat} {M : qxM} {st : List Value} {ls : qxL} : Rs L xs (d) 59 0 ls st M x = Rs L xs (d) 59 1 ls (.int (nI 0) :: st) M x := Rs_next c59_0 rfl
theorem c59_1 : qx_code 59 1 = some (1, .istore_n 2, 2, 0, 0, 0) := by decide +kernel
theorem s59_1i {L : Nat} {xs : Nat → Int32} {d x : Nat} {M : qxM} {st : List Value} {a0 a2 a3 : Option Value} {z : Int32} {y : Int32} : Rs L xs (d) 59 1 [a0, some (.int y), a2, a3] (.int z :: st) M x = Rs L xs (d) 59 2 [a0, some (.int y), some (.int z), a3] st M x := Rs_next c59_1 rfl
theorem s59_1r {L : Nat} {xs : Nat → Int32} {d x : Nat} {M : qxM} {st : List Value} {a0 a2 a3 : Option Value} {z : Int32} {y : Nat} : Rs L xs (d) 59 1 [a0, some (.ref y), a2, a3] (.int z :: st) M x = Rs L xs (d) 59 2 [a0, some (.ref y), some (.int z), a3] st M x := Rs_next c59_1 rfl
theorem s59_1n {L : Nat} {xs : Nat → Int32} {d x : Nat} {M : qxM} {st : List Value} {a0 a2 a3 : Option Value} {z : Int32} : Rs L xs (d) 59 1 [a0, none, a2, a3] (.int z :: st) M x = Rs L xs (d) 59 2 [a0, none, some (.int z), a3] st M x := Rs_next c59_1 rfl
theorem c59_2 : qx_code 59 2 = some (2, .iconst 0, 3, 0, 0, 0) := by decide +kernel
theorem s59_2 {L : Nat} {xs : Nat → Int32} {d x : Nat} {M : qxM} {st : List Value} {ls : qxL} : Rs L xs (d) 59 2 ls st M x = Rs L xs (d) 59 3 ls (.int (nI 0) :: st) M x := Rs_next c59_2 rfl
theorem c59_3 : qx_code 59 3 = some (3, .istore_n 3, 4, 0, 0, 0) := by decide +kernel
theorem s59_3i {L : Nat} {xs : Nat → Int32} {d x : Nat} {M : qxM} {st : List Value} {a0 a1 a3 : Option Value} {z : Int32} {y : Int32} : Rs L xs (d) 59 3 [a0, a1, some (.int y), a3] (.int z :: st) M x = Rs L xs (d) 59 4 [a0, a1, some (.int y), some (.int z)] st M x := Rs_next c59_3 rfl
theorem s59_3r {L : Nat} {xs : Nat → Int32} {d x : Nat} {M : qxM} {st : List Value} {a0 a1 a3 : Option Value} {z : Int32} {y : Nat} : Rs L xs (d) 59 3 [a0, a1, some (.ref y), a3] (.int z :: st) M x = Rs L xs (d) 59 4 [a0, a1, some (.ref y), some (.int z)] st M x := Rs_next c59_3 rfl
theorem s59_3n {L : Nat} {xs : Nat → Int32} {d x : Nat} {M : qxM} {st : List Value} {a0 a1 a3 : Option Value} {z : Int32} : Rs L xs (d) 59 3 [a0, a1, none, a3] (.int z :: st) M x = Rs L xs (d) 59 4 [a0, a1, none, some (.int z)] st M x := Rs_next c59_3 rfl
theorem c59_4 : qx_code 59 4 = some (4, .iload_n 3, 5, 0, 0, 0) := by decide +kernel
theorem s59_4 {L : Nat} {xs : Nat → Int32} {d x : Nat} {M : qxM} {st : List Value} {a0 a1 a2 : Option Value} {z : Int32} : Rs L xs (d) 59 4 [a0, a1, a2, some (.int z)] st M x = Rs L xs (d) 59 5 [a0, a1, a2, some (.int z)] (.int z :: st) M x := Rs_next c59_4 rfl
theorem c59_5 : qx_code 59 5 = some (5, .bipush 14, 7, 0, 0, 0) := by decide +kernel
theorem s59_5 {L : Nat} {xs : Nat → Int32} {d x : Nat} {M : qxM} {st : List Value} {ls : qxL} : Rs L xs (d) 59 5 ls st M x = Rs L xs (d) 59 7 ls (.int (nI 14) :: st) M x := Rs_next c59_5 rfl
theorem c59_7 : qx_code 59 7 = some (7, .if_icmp .ge 25, 10, 32, 0, 0) := by decide +kernel
theorem s59_7 {L : Nat} {xs : Nat → Int32} {d x : Nat} {M : qxM} {st : List Value} {ls : qxL} {z y : Int32} : Rs L xs (d) 59 7 ls (.int y :: .int z :: st) M x = if y ≤ z then Rs L xs (d) 59 32 ls st M x else Rs L xs (d) 59 10 ls st M x := Rs_ite c59_7 rfl
theorem c59_10 : qx_code 59 10 = some (10, .aload_n 0, 11, 0, 0, 0) := by decide +kernel
theorem s59_10 {L : Nat} {xs : Nat → Int32} {d x : Nat} {M : qxM} {st : List Value} {a1 a2 a3 : Option Value} {z : Nat} : Rs L xs (d) 59 10 [some (.ref z), a1, a2, a3] st M x = Rs L xs (d) 59 11 [some (.ref z), a1, a2, a3] (.ref z :: st) M x := Rs_next c59_10 rfl
theorem c59_11 : qx_code 59 11 = some (11, .iload_n 3, 12, 0, 0, 0) := by decide +kernel
theorem s59_11 {L : Nat} {xs : Nat → Int32} {d x : Nat} {M : qxM} {st : List Value} {a0 a1 a2 : Option Value} {z : Int32} : Rs L xs (d) 59 11 [a0, a1, a2, some (.int z)] st M x = Rs L xs (d) 59 12 [a0, a1, a2, some (.int z)] (.int z :: st) M x := Rs_next c59_11 rfl
theorem c59_12 : qx_code 59 12 = some (12, .invokevirtual 93, 15, 58, 2, 859) := by decide +kernel
theorem s59_12 {L : Nat} {xs : Nat → Int32} {d x : Nat} {M : qxM} {st : List Value} {ls : qxL} {t : Nat} {z0 : Int32} (hk : qx_kd t = 13) (hs : st.length ≤ 4) : Rs L xs (d + 1) 59 12 ls (.int z0 :: .ref t :: st) M x = (Rs L xs d 58 0 [some (.ref t), some (.int z0)] [] M 0).bind (qx_kn L xs (d + 1) 59 12 15 58 ls st x) := by
  have h1 : qx_act L xs (qx_rt 59) (12, .invokevirtual 93, 15, 58, 2, 859) ls (.int z0 :: .ref t :: st) M = if 2 ≤ (.int z0 :: .ref t :: st).length ∧ st.length ≤ 4 then some (.inr (.inr (.inr (58, [.ref t, .int z0], st)))) else none := rfl
  rw [if_pos ⟨by simp [List.length_cons]; try omega, hs⟩] at h1
  have h2 := qx_kd_obj (k := 3) (by decide) hk
  exact Rs_call c59_12 h1 (by rw [show qx_args 58 [.ref t, .int z0] = decide (qx_sh t = some (.inl 3)) from rfl]; exact decide_eq_true h2)
theorem c59_15 : qx_code 59 15 = some (15, .iload_n 1, 16, 0, 0, 0) := by decide +kernel
theorem s59_15 {L : Nat} {xs : Nat → Int32} {d x : Nat} {M : qxM} {st : List Value} {a0 a2 a3 : Option Value} {z : Int32} : Rs L xs (d) 59 15 [a0, some (.int z), a2, a3] st M x = Rs L xs (d) 59 16 [a0, some (.int z), a2, a3] (.int z :: st) M x := Rs_next c59_15 rfl
theorem c59_16 : qx_code 59 16 = some (16, .if_icmp .ne 10, 19, 26, 0, 0) := by decide +kernel
theorem s59_16 {L : Nat} {xs : Nat → Int32} {d x : Nat} {M : qxM} {st : List Value} {ls : qxL} {z y : Int32} : Rs L xs (d) 59 16 ls (.int y :: .int z :: st) M x = if z = y then Rs L xs (d) 59 19 ls st M x else Rs L xs (d) 59 26 ls st M x := Rs_ite c59_16 rfl
theorem c59_19 : qx_code 59 19 = some (19, .iload_n 2, 20, 0, 0, 0) := by decide +kernel
theorem s59_19 {L : Nat} {xs : Nat → Int32} {d x : Nat} {M : qxM} {st : List Value} {a0 a1 a3 : Option Value} {z : Int32} : Rs L xs (d) 59 19 [a0, a1, some (.int z), a3] st M x = Rs L xs (d) 59 20 [a0, a1, some (.int z), a3] (.int z :: st) M x := Rs_next c59_19 rfl
theorem c59_20 : qx_code 59 20 = some (20, .iload_n 3, 21, 0, 0, 0) := by decide +kernel
theorem s59_20 {L : Nat} {xs : Nat → Int32} {d x : Nat} {M : qxM} {st : List Value} {a0 a1 a2 : Option Value} {z : Int32} : Rs L xs (d) 59 20 [a0, a1, a2, some (.int z)] st M x = Rs L xs (d) 59 21 [a0, a1, a2, some (.int z)] (.int z :: st) M x := Rs_next c59_20 rfl
theorem c59_21 : qx_code 59 21 = some (21, .invokestatic 97, 24, 169, 1, 860) := by decide +kernel
theorem s59_21 {L : Nat} {xs : Nat → Int32} {d x : Nat} {M : qxM} {st : List Value} {ls : qxL} {z0 : Int32} (hs : st.length ≤ 4) : Rs L xs (d + 1) 59 21 ls (.int z0 :: st) M x = (Rs L xs d 169 0 [some (.int z0)] [] M 0).bind (qx_kn L xs (d + 1) 59 21 24 169 ls st x) := by
  have h1 : qx_act L xs (qx_rt 59) (21, .invokestatic 97, 24, 169, 1, 860) ls (.int z0 :: st) M = if 1 ≤ (.int z0 :: st).length ∧ st.length ≤ 4 then some (.inr (.inr (.inr (169, [.int z0], st)))) else none := rfl
  rw [if_pos ⟨by simp [List.length_cons]; try omega, hs⟩] at h1
  exact Rs_call c59_21 h1 rfl
theorem c59_24 : qx_code 59 24 = some (24, .ior, 25, 0, 0, 0) := by decide +kernel
theorem s59_24 {L : Nat} {xs : Nat → Int32} {d x : Nat} {M : qxM} {st : List Value} {ls : qxL} {z y : Int32} : Rs L xs (d) 59 24 ls (.int y :: .int z :: st) M x = Rs L xs (d) 59 25 ls (.int (z ||| y) :: st) M x := Rs_next c59_24 rfl
theorem c59_25 : qx_code 59 25 = some (25, .istore_n 2, 26, 0, 0, 0) := by decide +kernel
theorem s59_25i {L : Nat} {xs : Nat → Int32} {d x : Nat} {M : qxM} {st : List Value} {a0 a2 a3 : Option Value} {z : Int32} {y : Int32} : Rs L xs (d) 59 25 [a0, some (.int y), a2, a3] (.int z :: st) M x = Rs L xs (d) 59 26 [a0, some (.int y), some (.int z), a3] st M x := Rs_next c59_25 rfl
theorem s59_25r {L : Nat} {xs : Nat → Int32} {d x : Nat} {M : qxM} {st : List Value} {a0 a2 a3 : Option Value} {z : Int32} {y : Nat} : Rs L xs (d) 59 25 [a0, some (.ref y), a2, a3] (.int z :: st) M x = Rs L xs (d) 59 26 [a0, some (.ref y), some (.int z), a3] st M x := Rs_next c59_25 rfl
theorem s59_25n {L : Nat} {xs : Nat → Int32} {d x : Nat} {M : qxM} {st : List Value} {a0 a2 a3 : Option Value} {z : Int32} : Rs L xs (d) 59 25 [a0, none, a2, a3] (.int z :: st) M x = Rs L xs (d) 59 26 [a0, none, some (.int z), a3] st M x := Rs_next c59_25 rfl
theorem c59_26 : qx_code 59 26 = some (26, .iinc 3 1, 29, 0, 0, 0) := by decide +kernel
theorem s59_26i {L : Nat} {xs : Nat → Int32} {d x : Nat} {M : qxM} {st : List Value} {a0 a1 : Option Value} {z : Int32} {y : Int32} : Rs L xs (d) 59 26 [a0, a1, some (.int y), some (.int z)] st M x = Rs L xs (d) 59 29 [a0, a1, some (.int y), some (.int (z + (nI 1)))] st M x := Rs_next c59_26 rfl
theorem s59_26r {L : Nat} {xs : Nat → Int32} {d x : Nat} {M : qxM} {st : List Value} {a0 a1 : Option Value} {z : Int32} {y : Nat} : Rs L xs (d) 59 26 [a0, a1, some (.ref y), some (.int z)] st M x = Rs L xs (d) 59 29 [a0, a1, some (.ref y), some (.int (z + (nI 1)))] st M x := Rs_next c59_26 rfl
theorem s59_26n {L : Nat} {xs : Nat → Int32} {d x : Nat} {M : qxM} {st : List Value} {a0 a1 : Option Value} {z : Int32} : Rs L xs (d) 59 26 [a0, a1, none, some (.int z)] st M x = Rs L xs (d) 59 29 [a0, a1, none, some (.int (z + (nI 1)))] st M x := Rs_next c59_26 rfl
theorem c59_29 : qx_code 59 29 = some (29, .goto (-25), 32, 4, 0, 0) := by decide +kernel
theorem s59_29 {L : Nat} {xs : Nat → Int32} {d x : Nat} {M : qxM} {st : List Value} {ls : qxL} : Rs L xs (d) 59 29 ls st M x = Rs L xs (d) 59 4 ls st M x := Rs_next c59_29 rfl
theorem c59_32 : qx_code 59 32 = some (32, .iload_n 2, 33, 0, 0, 0) := by decide +kernel
theorem s59_32 {L : Nat} {xs : Nat → Int32} {d x : Nat} {M : qxM} {st : List Value} {a0 a1 a3 : Option Value} {z : Int32} : Rs L xs (d) 59 32 [a0, a1, some (.int z), a3] st M x = Rs L xs (d) 59 33 [a0, a1, some (.int z), a3] (.int z :: st) M x := Rs_next c59_32 rfl
theorem c59_33 : qx_code 59 33 = some (33, .ireturn, 34, 0, 0, 0) := by decide +kernel
theorem s59_33 {L : Nat} {xs : Nat → Int32} {d x : Nat} {M : qxM} {ls : qxL} {z : Int32} : Rs L xs (d) 59 33 ls [.int z] M x = some (.inl (some (.int z)), M, x) := Rs_ret c59_33 rfl
theorem c60_0 : qx_code 60 0 = some (0, .aload_n 0, 1, 0, 0, 0) := by decide +kernel
theorem s60_0 {L : Nat} {xs : Nat → Int32} {d x : Nat} {M : qxM} {st : List Value} {z : Nat} : Rs L xs (d) 60 0 [some (.ref z)] st M x = Rs L xs (d) 60 1 [some (.ref z)] (.ref z :: st) M x := Rs_next c60_0 rfl
theorem c60_1 : qx_code 60 1 = some (1, .getfield 56, 4, 3, 7, 312) := by decide +kernel
theorem s60_1 {L : Nat} {xs : Nat → Int32} {d x : Nat} {M : qxM} {st : List Value} {ls : qxL} {t : Nat} (hk : qx_kd t = 13) : Rs L xs (d) 60 1 ls (.ref t :: st) M x = Rs L xs (d) 60 4 ls (.int (M.1 t 7) :: st) M x := Rs_when (qx_kd_obj (k := 3) (by decide) hk) c60_1 rfl
theorem c60_4 : qx_code 60 4 = some (4, .aload_n 0, 5, 0, 0, 0) := by decide +kernel
theorem s60_4 {L : Nat} {xs : Nat → Int32} {d x : Nat} {M : qxM} {st : List Value} {z : Nat} : Rs L xs (d) 60 4 [some (.ref z)] st M x = Rs L xs (d) 60 5 [some (.ref z)] (.ref z :: st) M x := Rs_next c60_4 rfl
theorem c60_5 : qx_code 60 5 = some (5, .getfield 53, 8, 3, 6, 311) := by decide +kernel
theorem s60_5 {L : Nat} {xs : Nat → Int32} {d x : Nat} {M : qxM} {st : List Value} {ls : qxL} {t : Nat} (hk : qx_kd t = 13) : Rs L xs (d) 60 5 ls (.ref t :: st) M x = Rs L xs (d) 60 8 ls (.int (M.1 t 6) :: st) M x := Rs_when (qx_kd_obj (k := 3) (by decide) hk) c60_5 rfl
theorem c60_8 : qx_code 60 8 = some (8, .isub, 9, 0, 0, 0) := by decide +kernel
theorem s60_8 {L : Nat} {xs : Nat → Int32} {d x : Nat} {M : qxM} {st : List Value} {ls : qxL} {z y : Int32} : Rs L xs (d) 60 8 ls (.int y :: .int z :: st) M x = Rs L xs (d) 60 9 ls (.int (z - y) :: st) M x := Rs_next c60_8 rfl
theorem c60_9 : qx_code 60 9 = some (9, .ireturn, 10, 0, 0, 0) := by decide +kernel
theorem s60_9 {L : Nat} {xs : Nat → Int32} {d x : Nat} {M : qxM} {ls : qxL} {z : Int32} : Rs L xs (d) 60 9 ls [.int z] M x = some (.inl (some (.int z)), M, x) := Rs_ret c60_9 rfl
theorem c61_0 : qx_code 61 0 = some (0, .iload_n 1, 1, 0, 0, 0) := by decide +kernel
theorem s61_0 {L : Nat} {xs : Nat → Int32} {d x : Nat} {M : qxM} {st : List Value} {a0 : Option Value} {z : Int32} : Rs L xs (d) 61 0 [a0, some (.int z)] st M x = Rs L xs (d) 61 1 [a0, some (.int z)] (.int z :: st) M x := Rs_next c61_0 rfl
theorem c61_1 : qx_code 61 1 = some (1, .ifCond .lt 27, 4, 28, 0, 0) := by decide +kernel
theorem s61_1 {L : Nat} {xs : Nat → Int32} {d x : Nat} {M : qxM} {st : List Value} {ls : qxL} {z : Int32} : Rs L xs (d) 61 1 ls (.int z :: st) M x = if z < 0 then Rs L xs (d) 61 28 ls st M x else Rs L xs (d) 61 4 ls st M x := Rs_ite c61_1 rfl
theorem c61_4 : qx_code 61 4 = some (4, .iload_n 1, 5, 0, 0, 0) := by decide +kernel
theorem s61_4 {L : Nat} {xs : Nat → Int32} {d x : Nat} {M : qxM} {st : List Value} {a0 : Option Value} {z : Int32} : Rs L xs (d) 61 4 [a0, some (.int z)] st M x = Rs L xs (d) 61 5 [a0, some (.int z)] (.int z :: st) M x := Rs_next c61_4 rfl
theorem c61_5 : qx_code 61 5 = some (5, .aload_n 0, 6, 0, 0, 0) := by decide +kernel
theorem s61_5 {L : Nat} {xs : Nat → Int32} {d x : Nat} {M : qxM} {st : List Value} {a1 : Option Value} {z : Nat} : Rs L xs (d) 61 5 [some (.ref z), a1] st M x = Rs L xs (d) 61 6 [some (.ref z), a1] (.ref z :: st) M x := Rs_next c61_5 rfl
theorem c61_6 : qx_code 61 6 = some (6, .invokevirtual 100, 9, 60, 1, 919) := by decide +kernel
theorem s61_6 {L : Nat} {xs : Nat → Int32} {d x : Nat} {M : qxM} {st : List Value} {ls : qxL} {t : Nat} (hk : qx_kd t = 13) (hs : st.length ≤ 4) : Rs L xs (d + 1) 61 6 ls (.ref t :: st) M x = (Rs L xs d 60 0 [some (.ref t)] [] M 0).bind (qx_kn L xs (d + 1) 61 6 9 60 ls st x) := by
  have h1 : qx_act L xs (qx_rt 61) (6, .invokevirtual 100, 9, 60, 1, 919) ls (.ref t :: st) M = if 1 ≤ (.ref t :: st).length ∧ st.length ≤ 4 then some (.inr (.inr (.inr (60, [.ref t], st)))) else none := rfl
  rw [if_pos ⟨by simp [List.length_cons]; try omega, hs⟩] at h1
  have h2 := qx_kd_obj (k := 3) (by decide) hk
  exact Rs_call c61_6 h1 (by rw [show qx_args 60 [.ref t] = decide (qx_sh t = some (.inl 3)) from rfl]; exact decide_eq_true h2)
theorem c61_9 : qx_code 61 9 = some (9, .if_icmp .ge 19, 12, 28, 0, 0) := by decide +kernel
theorem s61_9 {L : Nat} {xs : Nat → Int32} {d x : Nat} {M : qxM} {st : List Value} {ls : qxL} {z y : Int32} : Rs L xs (d) 61 9 ls (.int y :: .int z :: st) M x = if y ≤ z then Rs L xs (d) 61 28 ls st M x else Rs L xs (d) 61 12 ls st M x := Rs_ite c61_9 rfl
theorem c61_12 : qx_code 61 12 = some (12, .aload_n 0, 13, 0, 0, 0) := by decide +kernel
theorem s61_12 {L : Nat} {xs : Nat → Int32} {d x : Nat} {M : qxM} {st : List Value} {a1 : Option Value} {z : Nat} : Rs L xs (d) 61 12 [some (.ref z), a1] st M x = Rs L xs (d) 61 13 [some (.ref z), a1] (.ref z :: st) M x := Rs_next c61_12 rfl
theorem c61_13 : qx_code 61 13 = some (13, .getfield 9, 16, 3, 9, 314) := by decide +kernel
theorem s61_13 {L : Nat} {xs : Nat → Int32} {d x : Nat} {M : qxM} {st : List Value} {ls : qxL} {t : Nat} (hk : qx_kd t = 13) : Rs L xs (d) 61 13 ls (.ref t :: st) M x = Rs L xs (d) 61 16 ls (.ref (t + 1) :: st) M x := Rs_when (qx_kd_obj (k := 3) (by decide) hk) c61_13 rfl
theorem c61_16 : qx_code 61 16 = some (16, .aload_n 0, 17, 0, 0, 0) := by decide +kernel
theorem s61_16 {L : Nat} {xs : Nat → Int32} {d x : Nat} {M : qxM} {st : List Value} {a1 : Option Value} {z : Nat} : Rs L xs (d) 61 16 [some (.ref z), a1] st M x = Rs L xs (d) 61 17 [some (.ref z), a1] (.ref z :: st) M x := Rs_next c61_16 rfl
theorem c61_17 : qx_code 61 17 = some (17, .getfield 53, 20, 3, 6, 311) := by decide +kernel
theorem s61_17 {L : Nat} {xs : Nat → Int32} {d x : Nat} {M : qxM} {st : List Value} {ls : qxL} {t : Nat} (hk : qx_kd t = 13) : Rs L xs (d) 61 17 ls (.ref t :: st) M x = Rs L xs (d) 61 20 ls (.int (M.1 t 6) :: st) M x := Rs_when (qx_kd_obj (k := 3) (by decide) hk) c61_17 rfl
theorem c61_20 : qx_code 61 20 = some (20, .iload_n 1, 21, 0, 0, 0) := by decide +kernel
theorem s61_20 {L : Nat} {xs : Nat → Int32} {d x : Nat} {M : qxM} {st : List Value} {a0 : Option Value} {z : Int32} : Rs L xs (d) 61 20 [a0, some (.int z)] st M x = Rs L xs (d) 61 21 [a0, some (.int z)] (.int z :: st) M x := Rs_next c61_20 rfl
theorem c61_21 : qx_code 61 21 = some (21, .iadd, 22, 0, 0, 0) := by decide +kernel
theorem s61_21 {L : Nat} {xs : Nat → Int32} {d x : Nat} {M : qxM} {st : List Value} {ls : qxL} {z y : Int32} : Rs L xs (d) 61 21 ls (.int y :: .int z :: st) M x = Rs L xs (d) 61 22 ls (.int (z + y) :: st) M x := Rs_next c61_21 rfl
theorem c61_22 : qx_code 61 22 = some (22, .invokestatic 104, 25, 173, 2, 920) := by decide +kernel
theorem s61_22 {L : Nat} {xs : Nat → Int32} {d x : Nat} {M : qxM} {st : List Value} {ls : qxL} {z0 : Nat} {z1 : Int32} (hs : st.length ≤ 4) : Rs L xs (d + 1) 61 22 ls (.int z1 :: .ref z0 :: st) M x = (Rs L xs d 173 0 [some (.ref z0), some (.int z1)] [] M 0).bind (qx_kn L xs (d + 1) 61 22 25 173 ls st x) := by
  have h1 : qx_act L xs (qx_rt 61) (22, .invokestatic 104, 25, 173, 2, 920) ls (.int z1 :: .ref z0 :: st) M = if 2 ≤ (.int z1 :: .ref z0 :: st).length ∧ st.length ≤ 4 then some (.inr (.inr (.inr (173, [.ref z0, .int z1], st)))) else none := rfl
  rw [if_pos ⟨by simp [List.length_cons]; try omega, hs⟩] at h1
  exact Rs_call c61_22 h1 rfl
theorem c61_25 : qx_code 61 25 = some (25, .goto 4, 28, 29, 0, 0) := by decide +kernel
theorem s61_25 {L : Nat} {xs : Nat → Int32} {d x : Nat} {M : qxM} {st : List Value} {ls : qxL} : Rs L xs (d) 61 25 ls st M x = Rs L xs (d) 61 29 ls st M x := Rs_next c61_25 rfl
theorem c61_28 : qx_code 61 28 = some (28, .iconst (-1), 29, 0, 0, 0) := by decide +kernel
theorem s61_28 {L : Nat} {xs : Nat → Int32} {d x : Nat} {M : qxM} {st : List Value} {ls : qxL} : Rs L xs (d) 61 28 ls st M x = Rs L xs (d) 61 29 ls (.int (-1) :: st) M x := Rs_next c61_28 rfl
theorem c61_29 : qx_code 61 29 = some (29, .ireturn, 30, 0, 0, 0) := by decide +kernel
theorem s61_29 {L : Nat} {xs : Nat → Int32} {d x : Nat} {M : qxM} {ls : qxL} {z : Int32} : Rs L xs (d) 61 29 ls [.int z] M x = some (.inl (some (.int z)), M, x) := Rs_ret c61_29 rfl
theorem c62_0 : qx_code 62 0 = some (0, .aload_n 0, 1, 0, 0, 0) := by decide +kernel
theorem s62_0 {L : Nat} {xs : Nat → Int32} {d x : Nat} {M : qxM} {st : List Value} {a1 : Option Value} {z : Nat} : Rs L xs (d) 62 0 [some (.ref z), a1] st M x = Rs L xs (d) 62 1 [some (.ref z), a1] (.ref z :: st) M x := Rs_next c62_0 rfl
theorem c62_1 : qx_code 62 1 = some (1, .getfield 34, 4, 3, 0, 296) := by decide +kernel
theorem s62_1 {L : Nat} {xs : Nat → Int32} {d x : Nat} {M : qxM} {st : List Value} {ls : qxL} {t : Nat} (hk : qx_kd t = 13) : Rs L xs (d) 62 1 ls (.ref t :: st) M x = Rs L xs (d) 62 4 ls (.int (M.1 t 0) :: st) M x := Rs_when (qx_kd_obj (k := 3) (by decide) hk) c62_1 rfl
theorem c62_4 : qx_code 62 4 = some (4, .iconst 1, 5, 0, 0, 0) := by decide +kernel
theorem s62_4 {L : Nat} {xs : Nat → Int32} {d x : Nat} {M : qxM} {st : List Value} {ls : qxL} : Rs L xs (d) 62 4 ls st M x = Rs L xs (d) 62 5 ls (.int (nI 1) :: st) M x := Rs_next c62_4 rfl
theorem c62_5 : qx_code 62 5 = some (5, .if_icmp .eq 11, 8, 16, 0, 0) := by decide +kernel
theorem s62_5 {L : Nat} {xs : Nat → Int32} {d x : Nat} {M : qxM} {st : List Value} {ls : qxL} {z y : Int32} : Rs L xs (d) 62 5 ls (.int y :: .int z :: st) M x = if z = y then Rs L xs (d) 62 16 ls st M x else Rs L xs (d) 62 8 ls st M x := Rs_ite c62_5 rfl
theorem c62_8 : qx_code 62 8 = some (8, .aload_n 0, 9, 0, 0, 0) := by decide +kernel
theorem s62_8 {L : Nat} {xs : Nat → Int32} {d x : Nat} {M : qxM} {st : List Value} {a1 : Option Value} {z : Nat} : Rs L xs (d) 62 8 [some (.ref z), a1] st M x = Rs L xs (d) 62 9 [some (.ref z), a1] (.ref z :: st) M x := Rs_next c62_8 rfl
theorem c62_9 : qx_code 62 9 = some (9, .getfield 34, 12, 3, 0, 296) := by decide +kernel
theorem s62_9 {L : Nat} {xs : Nat → Int32} {d x : Nat} {M : qxM} {st : List Value} {ls : qxL} {t : Nat} (hk : qx_kd t = 13) : Rs L xs (d) 62 9 ls (.ref t :: st) M x = Rs L xs (d) 62 12 ls (.int (M.1 t 0) :: st) M x := Rs_when (qx_kd_obj (k := 3) (by decide) hk) c62_9 rfl
theorem c62_12 : qx_code 62 12 = some (12, .iconst 3, 13, 0, 0, 0) := by decide +kernel
theorem s62_12 {L : Nat} {xs : Nat → Int32} {d x : Nat} {M : qxM} {st : List Value} {ls : qxL} : Rs L xs (d) 62 12 ls st M x = Rs L xs (d) 62 13 ls (.int (nI 3) :: st) M x := Rs_next c62_12 rfl
theorem c62_13 : qx_code 62 13 = some (13, .if_icmp .ne 14, 16, 27, 0, 0) := by decide +kernel
theorem s62_13 {L : Nat} {xs : Nat → Int32} {d x : Nat} {M : qxM} {st : List Value} {ls : qxL} {z y : Int32} : Rs L xs (d) 62 13 ls (.int y :: .int z :: st) M x = if z = y then Rs L xs (d) 62 16 ls st M x else Rs L xs (d) 62 27 ls st M x := Rs_ite c62_13 rfl
theorem c62_16 : qx_code 62 16 = some (16, .aload_n 0, 17, 0, 0, 0) := by decide +kernel
theorem s62_16 {L : Nat} {xs : Nat → Int32} {d x : Nat} {M : qxM} {st : List Value} {a1 : Option Value} {z : Nat} : Rs L xs (d) 62 16 [some (.ref z), a1] st M x = Rs L xs (d) 62 17 [some (.ref z), a1] (.ref z :: st) M x := Rs_next c62_16 rfl
theorem c62_17 : qx_code 62 17 = some (17, .getfield 30, 20, 3, 14, 322) := by decide +kernel
theorem s62_17 {L : Nat} {xs : Nat → Int32} {d x : Nat} {M : qxM} {st : List Value} {ls : qxL} {t : Nat} (hk : qx_kd t = 13) : Rs L xs (d) 62 17 ls (.ref t :: st) M x = Rs L xs (d) 62 20 ls (.ref (t + 6) :: st) M x := Rs_when (qx_kd_obj (k := 3) (by decide) hk) c62_17 rfl
theorem c62_20 : qx_code 62 20 = some (20, .iload_n 1, 21, 0, 0, 0) := by decide +kernel
theorem s62_20 {L : Nat} {xs : Nat → Int32} {d x : Nat} {M : qxM} {st : List Value} {a0 : Option Value} {z : Int32} : Rs L xs (d) 62 20 [a0, some (.int z)] st M x = Rs L xs (d) 62 21 [a0, some (.int z)] (.int z :: st) M x := Rs_next c62_20 rfl
theorem c62_21 : qx_code 62 21 = some (21, .invokevirtual 108, 24, 87, 2, 945) := by decide +kernel
theorem s62_21 {L : Nat} {xs : Nat → Int32} {d x : Nat} {M : qxM} {st : List Value} {ls : qxL} {t : Nat} {z0 : Int32} (hk : qx_kd t = 16) (hs : st.length ≤ 4) : Rs L xs (d + 1) 62 21 ls (.int z0 :: .ref t :: st) M x = (Rs L xs d 87 0 [some (.ref t), some (.int z0)] [] M 0).bind (qx_kn L xs (d + 1) 62 21 24 87 ls st x) := by
  have h1 : qx_act L xs (qx_rt 62) (21, .invokevirtual 108, 24, 87, 2, 945) ls (.int z0 :: .ref t :: st) M = if 2 ≤ (.int z0 :: .ref t :: st).length ∧ st.length ≤ 4 then some (.inr (.inr (.inr (87, [.ref t, .int z0], st)))) else none := rfl
  rw [if_pos ⟨by simp [List.length_cons]; try omega, hs⟩] at h1
  have h2 := qx_kd_obj (k := 6) (by decide) hk
  exact Rs_call c62_21 h1 (by rw [show qx_args 87 [.ref t, .int z0] = decide (qx_sh t = some (.inl 6)) from rfl]; exact decide_eq_true h2)
theorem c62_24 : qx_code 62 24 = some (24, .goto 4, 27, 28, 0, 0) := by decide +kernel
theorem s62_24 {L : Nat} {xs : Nat → Int32} {d x : Nat} {M : qxM} {st : List Value} {ls : qxL} : Rs L xs (d) 62 24 ls st M x = Rs L xs (d) 62 28 ls st M x := Rs_next c62_24 rfl
theorem c62_27 : qx_code 62 27 = some (27, .iconst 0, 28, 0, 0, 0) := by decide +kernel
theorem s62_27 {L : Nat} {xs : Nat → Int32} {d x : Nat} {M : qxM} {st : List Value} {ls : qxL} : Rs L xs (d) 62 27 ls st M x = Rs L xs (d) 62 28 ls (.int (nI 0) :: st) M x := Rs_next c62_27 rfl
theorem c62_28 : qx_code 62 28 = some (28, .ireturn, 29, 0, 0, 0) := by decide +kernel
theorem s62_28 {L : Nat} {xs : Nat → Int32} {d x : Nat} {M : qxM} {ls : qxL} {z : Int32} : Rs L xs (d) 62 28 ls [.int z] M x = some (.inl (some (.int z)), M, x) := Rs_ret c62_28 rfl
theorem c63_0 : qx_code 63 0 = some (0, .aload_n 1, 1, 0, 0, 0) := by decide +kernel
theorem s63_0 {L : Nat} {xs : Nat → Int32} {d x : Nat} {M : qxM} {st : List Value} {a0 a2 a3 : Option Value} {z : Nat} : Rs L xs (d) 63 0 [a0, some (.ref z), a2, a3] st M x = Rs L xs (d) 63 1 [a0, some (.ref z), a2, a3] (.ref z :: st) M x := Rs_next c63_0 rfl
theorem c63_1 : qx_code 63 1 = some (1, .aload_n 0, 2, 0, 0, 0) := by decide +kernel
theorem s63_1 {L : Nat} {xs : Nat → Int32} {d x : Nat} {M : qxM} {st : List Value} {a1 a2 a3 : Option Value} {z : Nat} : Rs L xs (d) 63 1 [some (.ref z), a1, a2, a3] st M x = Rs L xs (d) 63 2 [some (.ref z), a1, a2, a3] (.ref z :: st) M x := Rs_next c63_1 rfl
theorem c63_2 : qx_code 63 2 = some (2, .iconst 0, 3, 0, 0, 0) := by decide +kernel
theorem s63_2 {L : Nat} {xs : Nat → Int32} {d x : Nat} {M : qxM} {st : List Value} {ls : qxL} : Rs L xs (d) 63 2 ls st M x = Rs L xs (d) 63 3 ls (.int (nI 0) :: st) M x := Rs_next c63_2 rfl
theorem c63_3 : qx_code 63 3 = some (3, .invokevirtual 111, 6, 61, 2, 932) := by decide +kernel
theorem s63_3 {L : Nat} {xs : Nat → Int32} {d x : Nat} {M : qxM} {st : List Value} {ls : qxL} {t : Nat} {z0 : Int32} (hk : qx_kd t = 13) (hs : st.length ≤ 4) : Rs L xs (d + 1) 63 3 ls (.int z0 :: .ref t :: st) M x = (Rs L xs d 61 0 [some (.ref t), some (.int z0)] [] M 0).bind (qx_kn L xs (d + 1) 63 3 6 61 ls st x) := by
  have h1 : qx_act L xs (qx_rt 63) (3, .invokevirtual 111, 6, 61, 2, 932) ls (.int z0 :: .ref t :: st) M = if 2 ≤ (.int z0 :: .ref t :: st).length ∧ st.length ≤ 4 then some (.inr (.inr (.inr (61, [.ref t, .int z0], st)))) else none := rfl
  rw [if_pos ⟨by simp [List.length_cons]; try omega, hs⟩] at h1
  have h2 := qx_kd_obj (k := 3) (by decide) hk
  exact Rs_call c63_3 h1 (by rw [show qx_args 61 [.ref t, .int z0] = decide (qx_sh t = some (.inl 3)) from rfl]; exact decide_eq_true h2)
theorem c63_6 : qx_code 63 6 = some (6, .invokevirtual 114, 9, 42, 2, 933) := by decide +kernel
theorem s63_6 {L : Nat} {xs : Nat → Int32} {d x : Nat} {M : qxM} {st : List Value} {ls : qxL} {t : Nat} {z0 : Int32} (hk : qx_kd t = 12) (hs : st.length ≤ 4) : Rs L xs (d + 1) 63 6 ls (.int z0 :: .ref t :: st) M x = (Rs L xs d 42 0 [some (.ref t), some (.int z0)] [] M 0).bind (qx_kn L xs (d + 1) 63 6 9 42 ls st x) := by
  have h1 : qx_act L xs (qx_rt 63) (6, .invokevirtual 114, 9, 42, 2, 933) ls (.int z0 :: .ref t :: st) M = if 2 ≤ (.int z0 :: .ref t :: st).length ∧ st.length ≤ 4 then some (.inr (.inr (.inr (42, [.ref t, .int z0], st)))) else none := rfl
  rw [if_pos ⟨by simp [List.length_cons]; try omega, hs⟩] at h1
  have h2 := qx_kd_obj (k := 2) (by decide) hk
  exact Rs_call c63_6 h1 (by rw [show qx_args 42 [.ref t, .int z0] = decide (qx_sh t = some (.inl 2)) from rfl]; exact decide_eq_true h2)
theorem c63_9 : qx_code 63 9 = some (9, .istore_n 2, 10, 0, 0, 0) := by decide +kernel
theorem s63_9i {L : Nat} {xs : Nat → Int32} {d x : Nat} {M : qxM} {st : List Value} {a0 a2 a3 : Option Value} {z : Int32} {y : Int32} : Rs L xs (d) 63 9 [a0, some (.int y), a2, a3] (.int z :: st) M x = Rs L xs (d) 63 10 [a0, some (.int y), some (.int z), a3] st M x := Rs_next c63_9 rfl
theorem s63_9r {L : Nat} {xs : Nat → Int32} {d x : Nat} {M : qxM} {st : List Value} {a0 a2 a3 : Option Value} {z : Int32} {y : Nat} : Rs L xs (d) 63 9 [a0, some (.ref y), a2, a3] (.int z :: st) M x = Rs L xs (d) 63 10 [a0, some (.ref y), some (.int z), a3] st M x := Rs_next c63_9 rfl
theorem s63_9n {L : Nat} {xs : Nat → Int32} {d x : Nat} {M : qxM} {st : List Value} {a0 a2 a3 : Option Value} {z : Int32} : Rs L xs (d) 63 9 [a0, none, a2, a3] (.int z :: st) M x = Rs L xs (d) 63 10 [a0, none, some (.int z), a3] st M x := Rs_next c63_9 rfl
theorem c63_10 : qx_code 63 10 = some (10, .aload_n 0, 11, 0, 0, 0) := by decide +kernel
theorem s63_10 {L : Nat} {xs : Nat → Int32} {d x : Nat} {M : qxM} {st : List Value} {a1 a2 a3 : Option Value} {z : Nat} : Rs L xs (d) 63 10 [some (.ref z), a1, a2, a3] st M x = Rs L xs (d) 63 11 [some (.ref z), a1, a2, a3] (.ref z :: st) M x := Rs_next c63_10 rfl
theorem c63_11 : qx_code 63 11 = some (11, .getfield 59, 14, 3, 8, 313) := by decide +kernel
theorem s63_11 {L : Nat} {xs : Nat → Int32} {d x : Nat} {M : qxM} {st : List Value} {ls : qxL} {t : Nat} (hk : qx_kd t = 13) : Rs L xs (d) 63 11 ls (.ref t :: st) M x = Rs L xs (d) 63 14 ls (.int (M.1 t 8) :: st) M x := Rs_when (qx_kd_obj (k := 3) (by decide) hk) c63_11 rfl
theorem c63_14 : qx_code 63 14 = some (14, .istore_n 3, 15, 0, 0, 0) := by decide +kernel
theorem s63_14i {L : Nat} {xs : Nat → Int32} {d x : Nat} {M : qxM} {st : List Value} {a0 a1 a3 : Option Value} {z : Int32} {y : Int32} : Rs L xs (d) 63 14 [a0, a1, some (.int y), a3] (.int z :: st) M x = Rs L xs (d) 63 15 [a0, a1, some (.int y), some (.int z)] st M x := Rs_next c63_14 rfl
theorem s63_14r {L : Nat} {xs : Nat → Int32} {d x : Nat} {M : qxM} {st : List Value} {a0 a1 a3 : Option Value} {z : Int32} {y : Nat} : Rs L xs (d) 63 14 [a0, a1, some (.ref y), a3] (.int z :: st) M x = Rs L xs (d) 63 15 [a0, a1, some (.ref y), some (.int z)] st M x := Rs_next c63_14 rfl
theorem s63_14n {L : Nat} {xs : Nat → Int32} {d x : Nat} {M : qxM} {st : List Value} {a0 a1 a3 : Option Value} {z : Int32} : Rs L xs (d) 63 14 [a0, a1, none, a3] (.int z :: st) M x = Rs L xs (d) 63 15 [a0, a1, none, some (.int z)] st M x := Rs_next c63_14 rfl
theorem c63_15 : qx_code 63 15 = some (15, .iload_n 3, 16, 0, 0, 0) := by decide +kernel
theorem s63_15 {L : Nat} {xs : Nat → Int32} {d x : Nat} {M : qxM} {st : List Value} {a0 a1 a2 : Option Value} {z : Int32} : Rs L xs (d) 63 15 [a0, a1, a2, some (.int z)] st M x = Rs L xs (d) 63 16 [a0, a1, a2, some (.int z)] (.int z :: st) M x := Rs_next c63_15 rfl
theorem c63_16 : qx_code 63 16 = some (16, .bipush 14, 18, 0, 0, 0) := by decide +kernel
theorem s63_16 {L : Nat} {xs : Nat → Int32} {d x : Nat} {M : qxM} {st : List Value} {ls : qxL} : Rs L xs (d) 63 16 ls st M x = Rs L xs (d) 63 18 ls (.int (nI 14) :: st) M x := Rs_next c63_16 rfl
theorem c63_18 : qx_code 63 18 = some (18, .if_icmp .ge 19, 21, 37, 0, 0) := by decide +kernel
theorem s63_18 {L : Nat} {xs : Nat → Int32} {d x : Nat} {M : qxM} {st : List Value} {ls : qxL} {z y : Int32} : Rs L xs (d) 63 18 ls (.int y :: .int z :: st) M x = if y ≤ z then Rs L xs (d) 63 37 ls st M x else Rs L xs (d) 63 21 ls st M x := Rs_ite c63_18 rfl
theorem c63_21 : qx_code 63 21 = some (21, .iload_n 2, 22, 0, 0, 0) := by decide +kernel
theorem s63_21 {L : Nat} {xs : Nat → Int32} {d x : Nat} {M : qxM} {st : List Value} {a0 a1 a3 : Option Value} {z : Int32} : Rs L xs (d) 63 21 [a0, a1, some (.int z), a3] st M x = Rs L xs (d) 63 22 [a0, a1, some (.int z), a3] (.int z :: st) M x := Rs_next c63_21 rfl
theorem c63_22 : qx_code 63 22 = some (22, .iload_n 3, 23, 0, 0, 0) := by decide +kernel
theorem s63_22 {L : Nat} {xs : Nat → Int32} {d x : Nat} {M : qxM} {st : List Value} {a0 a1 a2 : Option Value} {z : Int32} : Rs L xs (d) 63 22 [a0, a1, a2, some (.int z)] st M x = Rs L xs (d) 63 23 [a0, a1, a2, some (.int z)] (.int z :: st) M x := Rs_next c63_22 rfl
theorem c63_23 : qx_code 63 23 = some (23, .invokestatic 89, 26, 170, 2, 876) := by decide +kernel
theorem s63_23 {L : Nat} {xs : Nat → Int32} {d x : Nat} {M : qxM} {st : List Value} {ls : qxL} {z0 : Int32} {z1 : Int32} (hs : st.length ≤ 4) : Rs L xs (d + 1) 63 23 ls (.int z1 :: .int z0 :: st) M x = (Rs L xs d 170 0 [some (.int z0), some (.int z1)] [] M 0).bind (qx_kn L xs (d + 1) 63 23 26 170 ls st x) := by
  have h1 : qx_act L xs (qx_rt 63) (23, .invokestatic 89, 26, 170, 2, 876) ls (.int z1 :: .int z0 :: st) M = if 2 ≤ (.int z1 :: .int z0 :: st).length ∧ st.length ≤ 4 then some (.inr (.inr (.inr (170, [.int z0, .int z1], st)))) else none := rfl
  rw [if_pos ⟨by simp [List.length_cons]; try omega, hs⟩] at h1
  exact Rs_call c63_23 h1 rfl
theorem c63_26 : qx_code 63 26 = some (26, .ifCond .eq 5, 29, 31, 0, 0) := by decide +kernel
theorem s63_26 {L : Nat} {xs : Nat → Int32} {d x : Nat} {M : qxM} {st : List Value} {ls : qxL} {z : Int32} : Rs L xs (d) 63 26 ls (.int z :: st) M x = if z = 0 then Rs L xs (d) 63 31 ls st M x else Rs L xs (d) 63 29 ls st M x := Rs_ite c63_26 rfl
theorem c63_29 : qx_code 63 29 = some (29, .iload_n 3, 30, 0, 0, 0) := by decide +kernel
theorem s63_29 {L : Nat} {xs : Nat → Int32} {d x : Nat} {M : qxM} {st : List Value} {a0 a1 a2 : Option Value} {z : Int32} : Rs L xs (d) 63 29 [a0, a1, a2, some (.int z)] st M x = Rs L xs (d) 63 30 [a0, a1, a2, some (.int z)] (.int z :: st) M x := Rs_next c63_29 rfl
theorem c63_30 : qx_code 63 30 = some (30, .ireturn, 31, 0, 0, 0) := by decide +kernel
theorem s63_30 {L : Nat} {xs : Nat → Int32} {d x : Nat} {M : qxM} {ls : qxL} {z : Int32} : Rs L xs (d) 63 30 ls [.int z] M x = some (.inl (some (.int z)), M, x) := Rs_ret c63_30 rfl
theorem c63_31 : qx_code 63 31 = some (31, .iinc 3 1, 34, 0, 0, 0) := by decide +kernel
theorem s63_31i {L : Nat} {xs : Nat → Int32} {d x : Nat} {M : qxM} {st : List Value} {a0 a1 : Option Value} {z : Int32} {y : Int32} : Rs L xs (d) 63 31 [a0, a1, some (.int y), some (.int z)] st M x = Rs L xs (d) 63 34 [a0, a1, some (.int y), some (.int (z + (nI 1)))] st M x := Rs_next c63_31 rfl
theorem s63_31r {L : Nat} {xs : Nat → Int32} {d x : Nat} {M : qxM} {st : List Value} {a0 a1 : Option Value} {z : Int32} {y : Nat} : Rs L xs (d) 63 31 [a0, a1, some (.ref y), some (.int z)] st M x = Rs L xs (d) 63 34 [a0, a1, some (.ref y), some (.int (z + (nI 1)))] st M x := Rs_next c63_31 rfl
theorem s63_31n {L : Nat} {xs : Nat → Int32} {d x : Nat} {M : qxM} {st : List Value} {a0 a1 : Option Value} {z : Int32} : Rs L xs (d) 63 31 [a0, a1, none, some (.int z)] st M x = Rs L xs (d) 63 34 [a0, a1, none, some (.int (z + (nI 1)))] st M x := Rs_next c63_31 rfl
theorem c63_34 : qx_code 63 34 = some (34, .goto (-19), 37, 15, 0, 0) := by decide +kernel
theorem s63_34 {L : Nat} {xs : Nat → Int32} {d x : Nat} {M : qxM} {st : List Value} {ls : qxL} : Rs L xs (d) 63 34 ls st M x = Rs L xs (d) 63 15 ls st M x := Rs_next c63_34 rfl
theorem c63_37 : qx_code 63 37 = some (37, .iconst (-1), 38, 0, 0, 0) := by decide +kernel
theorem s63_37 {L : Nat} {xs : Nat → Int32} {d x : Nat} {M : qxM} {st : List Value} {ls : qxL} : Rs L xs (d) 63 37 ls st M x = Rs L xs (d) 63 38 ls (.int (-1) :: st) M x := Rs_next c63_37 rfl
theorem c63_38 : qx_code 63 38 = some (38, .ireturn, 39, 0, 0, 0) := by decide +kernel
theorem s63_38 {L : Nat} {xs : Nat → Int32} {d x : Nat} {M : qxM} {ls : qxL} {z : Int32} : Rs L xs (d) 63 38 ls [.int z] M x = some (.inl (some (.int z)), M, x) := Rs_ret c63_38 rfl
theorem c64_0 : qx_code 64 0 = some (0, .aload_n 0, 1, 0, 0, 0) := by decide +kernel
theorem s64_0 {L : Nat} {xs : Nat → Int32} {d x : Nat} {M : qxM} {st : List Value} {a1 a2 a3 : Option Value} {z : Nat} : Rs L xs (d) 64 0 [some (.ref z), a1, a2, a3] st M x = Rs L xs (d) 64 1 [some (.ref z), a1, a2, a3] (.ref z :: st) M x := Rs_next c64_0 rfl
theorem c64_1 : qx_code 64 1 = some (1, .iconst 0, 2, 0, 0, 0) := by decide +kernel
theorem s64_1 {L : Nat} {xs : Nat → Int32} {d x : Nat} {M : qxM} {st : List Value} {ls : qxL} : Rs L xs (d) 64 1 ls st M x = Rs L xs (d) 64 2 ls (.int (nI 0) :: st) M x := Rs_next c64_1 rfl
theorem c64_2 : qx_code 64 2 = some (2, .invokevirtual 111, 5, 61, 2, 932) := by decide +kernel
theorem s64_2 {L : Nat} {xs : Nat → Int32} {d x : Nat} {M : qxM} {st : List Value} {ls : qxL} {t : Nat} {z0 : Int32} (hk : qx_kd t = 13) (hs : st.length ≤ 4) : Rs L xs (d + 1) 64 2 ls (.int z0 :: .ref t :: st) M x = (Rs L xs d 61 0 [some (.ref t), some (.int z0)] [] M 0).bind (qx_kn L xs (d + 1) 64 2 5 61 ls st x) := by
  have h1 : qx_act L xs (qx_rt 64) (2, .invokevirtual 111, 5, 61, 2, 932) ls (.int z0 :: .ref t :: st) M = if 2 ≤ (.int z0 :: .ref t :: st).length ∧ st.length ≤ 4 then some (.inr (.inr (.inr (61, [.ref t, .int z0], st)))) else none := rfl
  rw [if_pos ⟨by simp [List.length_cons]; try omega, hs⟩] at h1
  have h2 := qx_kd_obj (k := 3) (by decide) hk
  exact Rs_call c64_2 h1 (by rw [show qx_args 61 [.ref t, .int z0] = decide (qx_sh t = some (.inl 3)) from rfl]; exact decide_eq_true h2)
theorem c64_5 : qx_code 64 5 = some (5, .istore_n 2, 6, 0, 0, 0) := by decide +kernel
theorem s64_5i {L : Nat} {xs : Nat → Int32} {d x : Nat} {M : qxM} {st : List Value} {a0 a2 a3 : Option Value} {z : Int32} {y : Int32} : Rs L xs (d) 64 5 [a0, some (.int y), a2, a3] (.int z :: st) M x = Rs L xs (d) 64 6 [a0, some (.int y), some (.int z), a3] st M x := Rs_next c64_5 rfl
theorem s64_5r {L : Nat} {xs : Nat → Int32} {d x : Nat} {M : qxM} {st : List Value} {a0 a2 a3 : Option Value} {z : Int32} {y : Nat} : Rs L xs (d) 64 5 [a0, some (.ref y), a2, a3] (.int z :: st) M x = Rs L xs (d) 64 6 [a0, some (.ref y), some (.int z), a3] st M x := Rs_next c64_5 rfl
theorem s64_5n {L : Nat} {xs : Nat → Int32} {d x : Nat} {M : qxM} {st : List Value} {a0 a2 a3 : Option Value} {z : Int32} : Rs L xs (d) 64 5 [a0, none, a2, a3] (.int z :: st) M x = Rs L xs (d) 64 6 [a0, none, some (.int z), a3] st M x := Rs_next c64_5 rfl
theorem c64_6 : qx_code 64 6 = some (6, .aload_n 0, 7, 0, 0, 0) := by decide +kernel
theorem s64_6 {L : Nat} {xs : Nat → Int32} {d x : Nat} {M : qxM} {st : List Value} {a1 a2 a3 : Option Value} {z : Nat} : Rs L xs (d) 64 6 [some (.ref z), a1, a2, a3] st M x = Rs L xs (d) 64 7 [some (.ref z), a1, a2, a3] (.ref z :: st) M x := Rs_next c64_6 rfl
theorem c64_7 : qx_code 64 7 = some (7, .aload_n 1, 8, 0, 0, 0) := by decide +kernel
theorem s64_7 {L : Nat} {xs : Nat → Int32} {d x : Nat} {M : qxM} {st : List Value} {a0 a2 a3 : Option Value} {z : Nat} : Rs L xs (d) 64 7 [a0, some (.ref z), a2, a3] st M x = Rs L xs (d) 64 8 [a0, some (.ref z), a2, a3] (.ref z :: st) M x := Rs_next c64_7 rfl
theorem c64_8 : qx_code 64 8 = some (8, .invokevirtual 119, 11, 63, 2, 1265) := by decide +kernel
theorem s64_8 {L : Nat} {xs : Nat → Int32} {d x : Nat} {M : qxM} {st : List Value} {ls : qxL} {t : Nat} {z0 : Nat} (hk : qx_kd t = 13) (hs : st.length ≤ 4) : Rs L xs (d + 1) 64 8 ls (.ref z0 :: .ref t :: st) M x = (Rs L xs d 63 0 [some (.ref t), some (.ref z0), none, none] [] M 0).bind (qx_kn L xs (d + 1) 64 8 11 63 ls st x) := by
  have h1 : qx_act L xs (qx_rt 64) (8, .invokevirtual 119, 11, 63, 2, 1265) ls (.ref z0 :: .ref t :: st) M = if 2 ≤ (.ref z0 :: .ref t :: st).length ∧ st.length ≤ 4 then some (.inr (.inr (.inr (63, [.ref t, .ref z0], st)))) else none := rfl
  rw [if_pos ⟨by simp [List.length_cons]; try omega, hs⟩] at h1
  have h2 := qx_kd_obj (k := 3) (by decide) hk
  exact Rs_call c64_8 h1 (by rw [show qx_args 63 [.ref t, .ref z0] = decide (qx_sh t = some (.inl 3)) from rfl]; exact decide_eq_true h2)
theorem c64_11 : qx_code 64 11 = some (11, .istore_n 3, 12, 0, 0, 0) := by decide +kernel
theorem s64_11i {L : Nat} {xs : Nat → Int32} {d x : Nat} {M : qxM} {st : List Value} {a0 a1 a3 : Option Value} {z : Int32} {y : Int32} : Rs L xs (d) 64 11 [a0, a1, some (.int y), a3] (.int z :: st) M x = Rs L xs (d) 64 12 [a0, a1, some (.int y), some (.int z)] st M x := Rs_next c64_11 rfl
theorem s64_11r {L : Nat} {xs : Nat → Int32} {d x : Nat} {M : qxM} {st : List Value} {a0 a1 a3 : Option Value} {z : Int32} {y : Nat} : Rs L xs (d) 64 11 [a0, a1, some (.ref y), a3] (.int z :: st) M x = Rs L xs (d) 64 12 [a0, a1, some (.ref y), some (.int z)] st M x := Rs_next c64_11 rfl
theorem s64_11n {L : Nat} {xs : Nat → Int32} {d x : Nat} {M : qxM} {st : List Value} {a0 a1 a3 : Option Value} {z : Int32} : Rs L xs (d) 64 11 [a0, a1, none, a3] (.int z :: st) M x = Rs L xs (d) 64 12 [a0, a1, none, some (.int z)] st M x := Rs_next c64_11 rfl
theorem c64_12 : qx_code 64 12 = some (12, .aload_n 0, 13, 0, 0, 0) := by decide +kernel
theorem s64_12 {L : Nat} {xs : Nat → Int32} {d x : Nat} {M : qxM} {st : List Value} {a1 a2 a3 : Option Value} {z : Nat} : Rs L xs (d) 64 12 [some (.ref z), a1, a2, a3] st M x = Rs L xs (d) 64 13 [some (.ref z), a1, a2, a3] (.ref z :: st) M x := Rs_next c64_12 rfl
theorem c64_13 : qx_code 64 13 = some (13, .dup, 14, 0, 0, 0) := by decide +kernel
theorem s64_13r {L : Nat} {xs : Nat → Int32} {d x : Nat} {M : qxM} {st : List Value} {ls : qxL} {z : Nat} : Rs L xs (d) 64 13 ls (.ref z :: st) M x = Rs L xs (d) 64 14 ls (.ref z :: .ref z :: st) M x := Rs_next c64_13 rfl
theorem s64_13i {L : Nat} {xs : Nat → Int32} {d x : Nat} {M : qxM} {st : List Value} {ls : qxL} {z : Int32} : Rs L xs (d) 64 13 ls (.int z :: st) M x = Rs L xs (d) 64 14 ls (.int z :: .int z :: st) M x := Rs_next c64_13 rfl
theorem c64_14 : qx_code 64 14 = some (14, .getfield 41, 17, 3, 2, 301) := by decide +kernel
theorem s64_14 {L : Nat} {xs : Nat → Int32} {d x : Nat} {M : qxM} {st : List Value} {ls : qxL} {t : Nat} (hk : qx_kd t = 13) : Rs L xs (d) 64 14 ls (.ref t :: st) M x = Rs L xs (d) 64 17 ls (.int (M.1 t 2) :: st) M x := Rs_when (qx_kd_obj (k := 3) (by decide) hk) c64_14 rfl
theorem c64_17 : qx_code 64 17 = some (17, .iconst 1, 18, 0, 0, 0) := by decide +kernel
theorem s64_17 {L : Nat} {xs : Nat → Int32} {d x : Nat} {M : qxM} {st : List Value} {ls : qxL} : Rs L xs (d) 64 17 ls st M x = Rs L xs (d) 64 18 ls (.int (nI 1) :: st) M x := Rs_next c64_17 rfl
theorem c64_18 : qx_code 64 18 = some (18, .iadd, 19, 0, 0, 0) := by decide +kernel
theorem s64_18 {L : Nat} {xs : Nat → Int32} {d x : Nat} {M : qxM} {st : List Value} {ls : qxL} {z y : Int32} : Rs L xs (d) 64 18 ls (.int y :: .int z :: st) M x = Rs L xs (d) 64 19 ls (.int (z + y) :: st) M x := Rs_next c64_18 rfl
theorem c64_19 : qx_code 64 19 = some (19, .putfield 41, 22, 3, 2, 301) := by decide +kernel
theorem s64_19 {L : Nat} {xs : Nat → Int32} {d x : Nat} {M : qxM} {st : List Value} {ls : qxL} {t : Nat} {z : Int32} (hk : qx_kd t = 13) : Rs L xs (d) 64 19 ls (.int z :: .ref t :: st) M x = Rs L xs (d) 64 22 ls st (qx_up M t 2 z) x := Rs_when (cnd := qx_sh t = some (.inl 3) ∧ qx_fo 3 2 = none ∧ (qx_bf 3 2 = true → z = 0 ∨ z = 1)) ⟨qx_kd_obj (k := 3) (by decide) hk, rfl, fun h => nomatch h⟩ c64_19 rfl
theorem c64_22 : qx_code 64 22 = some (22, .iload_n 3, 23, 0, 0, 0) := by decide +kernel
theorem s64_22 {L : Nat} {xs : Nat → Int32} {d x : Nat} {M : qxM} {st : List Value} {a0 a1 a2 : Option Value} {z : Int32} : Rs L xs (d) 64 22 [a0, a1, a2, some (.int z)] st M x = Rs L xs (d) 64 23 [a0, a1, a2, some (.int z)] (.int z :: st) M x := Rs_next c64_22 rfl
theorem c64_23 : qx_code 64 23 = some (23, .iconst (-1), 24, 0, 0, 0) := by decide +kernel
theorem s64_23 {L : Nat} {xs : Nat → Int32} {d x : Nat} {M : qxM} {st : List Value} {ls : qxL} : Rs L xs (d) 64 23 ls st M x = Rs L xs (d) 64 24 ls (.int (-1) :: st) M x := Rs_next c64_23 rfl
theorem c64_24 : qx_code 64 24 = some (24, .if_icmp .ne 8, 27, 32, 0, 0) := by decide +kernel
theorem s64_24 {L : Nat} {xs : Nat → Int32} {d x : Nat} {M : qxM} {st : List Value} {ls : qxL} {z y : Int32} : Rs L xs (d) 64 24 ls (.int y :: .int z :: st) M x = if z = y then Rs L xs (d) 64 27 ls st M x else Rs L xs (d) 64 32 ls st M x := Rs_ite c64_24 rfl
theorem c64_27 : qx_code 64 27 = some (27, .aload_n 0, 28, 0, 0, 0) := by decide +kernel
theorem s64_27 {L : Nat} {xs : Nat → Int32} {d x : Nat} {M : qxM} {st : List Value} {a1 a2 a3 : Option Value} {z : Nat} : Rs L xs (d) 64 27 [some (.ref z), a1, a2, a3] st M x = Rs L xs (d) 64 28 [some (.ref z), a1, a2, a3] (.ref z :: st) M x := Rs_next c64_27 rfl
theorem c64_28 : qx_code 64 28 = some (28, .invokevirtual 123, 31, 65, 1, 1266) := by decide +kernel
theorem s64_28 {L : Nat} {xs : Nat → Int32} {d x : Nat} {M : qxM} {st : List Value} {ls : qxL} {t : Nat} (hk : qx_kd t = 13) (hs : st.length ≤ 4) : Rs L xs (d + 1) 64 28 ls (.ref t :: st) M x = (Rs L xs d 65 0 [some (.ref t)] [] M 0).bind (qx_kn L xs (d + 1) 64 28 31 65 ls st x) := by
  have h1 : qx_act L xs (qx_rt 64) (28, .invokevirtual 123, 31, 65, 1, 1266) ls (.ref t :: st) M = if 1 ≤ (.ref t :: st).length ∧ st.length ≤ 4 then some (.inr (.inr (.inr (65, [.ref t], st)))) else none := rfl
  rw [if_pos ⟨by simp [List.length_cons]; try omega, hs⟩] at h1
  have h2 := qx_kd_obj (k := 3) (by decide) hk
  exact Rs_call c64_28 h1 (by rw [show qx_args 65 [.ref t] = decide (qx_sh t = some (.inl 3)) from rfl]; exact decide_eq_true h2)
theorem c64_31 : qx_code 64 31 = some (31, .ireturn, 32, 0, 0, 0) := by decide +kernel
theorem s64_31 {L : Nat} {xs : Nat → Int32} {d x : Nat} {M : qxM} {ls : qxL} {z : Int32} : Rs L xs (d) 64 31 ls [.int z] M x = some (.inl (some (.int z)), M, x) := Rs_ret c64_31 rfl
theorem c64_32 : qx_code 64 32 = some (32, .aload_n 0, 33, 0, 0, 0) := by decide +kernel
theorem s64_32 {L : Nat} {xs : Nat → Int32} {d x : Nat} {M : qxM} {st : List Value} {a1 a2 a3 : Option Value} {z : Nat} : Rs L xs (d) 64 32 [some (.ref z), a1, a2, a3] st M x = Rs L xs (d) 64 33 [some (.ref z), a1, a2, a3] (.ref z :: st) M x := Rs_next c64_32 rfl
theorem c64_33 : qx_code 64 33 = some (33, .iload_n 3, 34, 0, 0, 0) := by decide +kernel
theorem s64_33 {L : Nat} {xs : Nat → Int32} {d x : Nat} {M : qxM} {st : List Value} {a0 a1 a2 : Option Value} {z : Int32} : Rs L xs (d) 64 33 [a0, a1, a2, some (.int z)] st M x = Rs L xs (d) 64 34 [a0, a1, a2, some (.int z)] (.int z :: st) M x := Rs_next c64_33 rfl
theorem c64_34 : qx_code 64 34 = some (34, .iconst 1, 35, 0, 0, 0) := by decide +kernel
theorem s64_34 {L : Nat} {xs : Nat → Int32} {d x : Nat} {M : qxM} {st : List Value} {ls : qxL} : Rs L xs (d) 64 34 ls st M x = Rs L xs (d) 64 35 ls (.int (nI 1) :: st) M x := Rs_next c64_34 rfl
theorem c64_35 : qx_code 64 35 = some (35, .iadd, 36, 0, 0, 0) := by decide +kernel
theorem s64_35 {L : Nat} {xs : Nat → Int32} {d x : Nat} {M : qxM} {st : List Value} {ls : qxL} {z y : Int32} : Rs L xs (d) 64 35 ls (.int y :: .int z :: st) M x = Rs L xs (d) 64 36 ls (.int (z + y) :: st) M x := Rs_next c64_35 rfl
theorem c64_36 : qx_code 64 36 = some (36, .putfield 59, 39, 3, 8, 313) := by decide +kernel
theorem s64_36 {L : Nat} {xs : Nat → Int32} {d x : Nat} {M : qxM} {st : List Value} {ls : qxL} {t : Nat} {z : Int32} (hk : qx_kd t = 13) : Rs L xs (d) 64 36 ls (.int z :: .ref t :: st) M x = Rs L xs (d) 64 39 ls st (qx_up M t 8 z) x := Rs_when (cnd := qx_sh t = some (.inl 3) ∧ qx_fo 3 8 = none ∧ (qx_bf 3 8 = true → z = 0 ∨ z = 1)) ⟨qx_kd_obj (k := 3) (by decide) hk, rfl, fun h => nomatch h⟩ c64_36 rfl
theorem c64_39 : qx_code 64 39 = some (39, .aload_n 0, 40, 0, 0, 0) := by decide +kernel
theorem s64_39 {L : Nat} {xs : Nat → Int32} {d x : Nat} {M : qxM} {st : List Value} {a1 a2 a3 : Option Value} {z : Nat} : Rs L xs (d) 64 39 [some (.ref z), a1, a2, a3] st M x = Rs L xs (d) 64 40 [some (.ref z), a1, a2, a3] (.ref z :: st) M x := Rs_next c64_39 rfl
theorem c64_40 : qx_code 64 40 = some (40, .getfield 50, 43, 3, 5, 309) := by decide +kernel
theorem s64_40 {L : Nat} {xs : Nat → Int32} {d x : Nat} {M : qxM} {st : List Value} {ls : qxL} {t : Nat} (hk : qx_kd t = 13) : Rs L xs (d) 64 40 ls (.ref t :: st) M x = Rs L xs (d) 64 43 ls (.int (M.1 t 5) :: st) M x := Rs_when (qx_kd_obj (k := 3) (by decide) hk) c64_40 rfl
theorem c64_43 : qx_code 64 43 = some (43, .iload_n 3, 44, 0, 0, 0) := by decide +kernel
theorem s64_43 {L : Nat} {xs : Nat → Int32} {d x : Nat} {M : qxM} {st : List Value} {a0 a1 a2 : Option Value} {z : Int32} : Rs L xs (d) 64 43 [a0, a1, a2, some (.int z)] st M x = Rs L xs (d) 64 44 [a0, a1, a2, some (.int z)] (.int z :: st) M x := Rs_next c64_43 rfl
theorem c64_44 : qx_code 64 44 = some (44, .invokestatic 89, 47, 170, 2, 876) := by decide +kernel
theorem s64_44 {L : Nat} {xs : Nat → Int32} {d x : Nat} {M : qxM} {st : List Value} {ls : qxL} {z0 : Int32} {z1 : Int32} (hs : st.length ≤ 4) : Rs L xs (d + 1) 64 44 ls (.int z1 :: .int z0 :: st) M x = (Rs L xs d 170 0 [some (.int z0), some (.int z1)] [] M 0).bind (qx_kn L xs (d + 1) 64 44 47 170 ls st x) := by
  have h1 : qx_act L xs (qx_rt 64) (44, .invokestatic 89, 47, 170, 2, 876) ls (.int z1 :: .int z0 :: st) M = if 2 ≤ (.int z1 :: .int z0 :: st).length ∧ st.length ≤ 4 then some (.inr (.inr (.inr (170, [.int z0, .int z1], st)))) else none := rfl
  rw [if_pos ⟨by simp [List.length_cons]; try omega, hs⟩] at h1
  exact Rs_call c64_44 h1 rfl
theorem c64_47 : qx_code 64 47 = some (47, .ifCond .ne 16, 50, 63, 0, 0) := by decide +kernel
theorem s64_47 {L : Nat} {xs : Nat → Int32} {d x : Nat} {M : qxM} {st : List Value} {ls : qxL} {z : Int32} : Rs L xs (d) 64 47 ls (.int z :: st) M x = if z = 0 then Rs L xs (d) 64 50 ls st M x else Rs L xs (d) 64 63 ls st M x := Rs_ite c64_47 rfl
theorem c64_50 : qx_code 64 50 = some (50, .aload_n 0, 51, 0, 0, 0) := by decide +kernel
theorem s64_50 {L : Nat} {xs : Nat → Int32} {d x : Nat} {M : qxM} {st : List Value} {a1 a2 a3 : Option Value} {z : Nat} : Rs L xs (d) 64 50 [some (.ref z), a1, a2, a3] st M x = Rs L xs (d) 64 51 [some (.ref z), a1, a2, a3] (.ref z :: st) M x := Rs_next c64_50 rfl
theorem c64_51 : qx_code 64 51 = some (51, .iload_n 2, 52, 0, 0, 0) := by decide +kernel
theorem s64_51 {L : Nat} {xs : Nat → Int32} {d x : Nat} {M : qxM} {st : List Value} {a0 a1 a3 : Option Value} {z : Int32} : Rs L xs (d) 64 51 [a0, a1, some (.int z), a3] st M x = Rs L xs (d) 64 52 [a0, a1, some (.int z), a3] (.int z :: st) M x := Rs_next c64_51 rfl
theorem c64_52 : qx_code 64 52 = some (52, .invokevirtual 93, 55, 58, 2, 859) := by decide +kernel
theorem s64_52 {L : Nat} {xs : Nat → Int32} {d x : Nat} {M : qxM} {st : List Value} {ls : qxL} {t : Nat} {z0 : Int32} (hk : qx_kd t = 13) (hs : st.length ≤ 4) : Rs L xs (d + 1) 64 52 ls (.int z0 :: .ref t :: st) M x = (Rs L xs d 58 0 [some (.ref t), some (.int z0)] [] M 0).bind (qx_kn L xs (d + 1) 64 52 55 58 ls st x) := by
  have h1 : qx_act L xs (qx_rt 64) (52, .invokevirtual 93, 55, 58, 2, 859) ls (.int z0 :: .ref t :: st) M = if 2 ≤ (.int z0 :: .ref t :: st).length ∧ st.length ≤ 4 then some (.inr (.inr (.inr (58, [.ref t, .int z0], st)))) else none := rfl
  rw [if_pos ⟨by simp [List.length_cons]; try omega, hs⟩] at h1
  have h2 := qx_kd_obj (k := 3) (by decide) hk
  exact Rs_call c64_52 h1 (by rw [show qx_args 58 [.ref t, .int z0] = decide (qx_sh t = some (.inl 3)) from rfl]; exact decide_eq_true h2)
theorem c64_55 : qx_code 64 55 = some (55, .aload_n 0, 56, 0, 0, 0) := by decide +kernel
theorem s64_55 {L : Nat} {xs : Nat → Int32} {d x : Nat} {M : qxM} {st : List Value} {a1 a2 a3 : Option Value} {z : Nat} : Rs L xs (d) 64 55 [some (.ref z), a1, a2, a3] st M x = Rs L xs (d) 64 56 [some (.ref z), a1, a2, a3] (.ref z :: st) M x := Rs_next c64_55 rfl
theorem c64_56 : qx_code 64 56 = some (56, .iload_n 3, 57, 0, 0, 0) := by decide +kernel
theorem s64_56 {L : Nat} {xs : Nat → Int32} {d x : Nat} {M : qxM} {st : List Value} {a0 a1 a2 : Option Value} {z : Int32} : Rs L xs (d) 64 56 [a0, a1, a2, some (.int z)] st M x = Rs L xs (d) 64 57 [a0, a1, a2, some (.int z)] (.int z :: st) M x := Rs_next c64_56 rfl
theorem c64_57 : qx_code 64 57 = some (57, .invokevirtual 93, 60, 58, 2, 859) := by decide +kernel
theorem s64_57 {L : Nat} {xs : Nat → Int32} {d x : Nat} {M : qxM} {st : List Value} {ls : qxL} {t : Nat} {z0 : Int32} (hk : qx_kd t = 13) (hs : st.length ≤ 4) : Rs L xs (d + 1) 64 57 ls (.int z0 :: .ref t :: st) M x = (Rs L xs d 58 0 [some (.ref t), some (.int z0)] [] M 0).bind (qx_kn L xs (d + 1) 64 57 60 58 ls st x) := by
  have h1 : qx_act L xs (qx_rt 64) (57, .invokevirtual 93, 60, 58, 2, 859) ls (.int z0 :: .ref t :: st) M = if 2 ≤ (.int z0 :: .ref t :: st).length ∧ st.length ≤ 4 then some (.inr (.inr (.inr (58, [.ref t, .int z0], st)))) else none := rfl
  rw [if_pos ⟨by simp [List.length_cons]; try omega, hs⟩] at h1
  have h2 := qx_kd_obj (k := 3) (by decide) hk
  exact Rs_call c64_57 h1 (by rw [show qx_args 58 [.ref t, .int z0] = decide (qx_sh t = some (.inl 3)) from rfl]; exact decide_eq_true h2)
theorem c64_60 : qx_code 64 60 = some (60, .if_icmp .ne 5, 63, 65, 0, 0) := by decide +kernel
theorem s64_60 {L : Nat} {xs : Nat → Int32} {d x : Nat} {M : qxM} {st : List Value} {ls : qxL} {z y : Int32} : Rs L xs (d) 64 60 ls (.int y :: .int z :: st) M x = if z = y then Rs L xs (d) 64 63 ls st M x else Rs L xs (d) 64 65 ls st M x := Rs_ite c64_60 rfl
theorem c64_63 : qx_code 64 63 = some (63, .iconst 0, 64, 0, 0, 0) := by decide +kernel
theorem s64_63 {L : Nat} {xs : Nat → Int32} {d x : Nat} {M : qxM} {st : List Value} {ls : qxL} : Rs L xs (d) 64 63 ls st M x = Rs L xs (d) 64 64 ls (.int (nI 0) :: st) M x := Rs_next c64_63 rfl
theorem c64_64 : qx_code 64 64 = some (64, .ireturn, 65, 0, 0, 0) := by decide +kernel
theorem s64_64 {L : Nat} {xs : Nat → Int32} {d x : Nat} {M : qxM} {ls : qxL} {z : Int32} : Rs L xs (d) 64 64 ls [.int z] M x = some (.inl (some (.int z)), M, x) := Rs_ret c64_64 rfl
theorem c64_65 : qx_code 64 65 = some (65, .aload_n 0, 66, 0, 0, 0) := by decide +kernel
theorem s64_65 {L : Nat} {xs : Nat → Int32} {d x : Nat} {M : qxM} {st : List Value} {a1 a2 a3 : Option Value} {z : Nat} : Rs L xs (d) 64 65 [some (.ref z), a1, a2, a3] st M x = Rs L xs (d) 64 66 [some (.ref z), a1, a2, a3] (.ref z :: st) M x := Rs_next c64_65 rfl
theorem c64_66 : qx_code 64 66 = some (66, .getfield 47, 69, 3, 4, 307) := by decide +kernel
theorem s64_66 {L : Nat} {xs : Nat → Int32} {d x : Nat} {M : qxM} {st : List Value} {ls : qxL} {t : Nat} (hk : qx_kd t = 13) : Rs L xs (d) 64 66 ls (.ref t :: st) M x = Rs L xs (d) 64 69 ls (.int (M.1 t 4) :: st) M x := Rs_when (qx_kd_obj (k := 3) (by decide) hk) c64_66 rfl
theorem c64_69 : qx_code 64 69 = some (69, .iload_n 3, 70, 0, 0, 0) := by decide +kernel
theorem s64_69 {L : Nat} {xs : Nat → Int32} {d x : Nat} {M : qxM} {st : List Value} {a0 a1 a2 : Option Value} {z : Int32} : Rs L xs (d) 64 69 [a0, a1, a2, some (.int z)] st M x = Rs L xs (d) 64 70 [a0, a1, a2, some (.int z)] (.int z :: st) M x := Rs_next c64_69 rfl
theorem c64_70 : qx_code 64 70 = some (70, .invokestatic 89, 73, 170, 2, 876) := by decide +kernel
theorem s64_70 {L : Nat} {xs : Nat → Int32} {d x : Nat} {M : qxM} {st : List Value} {ls : qxL} {z0 : Int32} {z1 : Int32} (hs : st.length ≤ 4) : Rs L xs (d + 1) 64 70 ls (.int z1 :: .int z0 :: st) M x = (Rs L xs d 170 0 [some (.int z0), some (.int z1)] [] M 0).bind (qx_kn L xs (d + 1) 64 70 73 170 ls st x) := by
  have h1 : qx_act L xs (qx_rt 64) (70, .invokestatic 89, 73, 170, 2, 876) ls (.int z1 :: .int z0 :: st) M = if 2 ≤ (.int z1 :: .int z0 :: st).length ∧ st.length ≤ 4 then some (.inr (.inr (.inr (170, [.int z0, .int z1], st)))) else none := rfl
  rw [if_pos ⟨by simp [List.length_cons]; try omega, hs⟩] at h1
  exact Rs_call c64_70 h1 rfl
theorem c64_73 : qx_code 64 73 = some (73, .ifCond .eq 12, 76, 85, 0, 0) := by decide +kernel
theorem s64_73 {L : Nat} {xs : Nat → Int32} {d x : Nat} {M : qxM} {st : List Value} {ls : qxL} {z : Int32} : Rs L xs (d) 64 73 ls (.int z :: st) M x = if z = 0 then Rs L xs (d) 64 85 ls st M x else Rs L xs (d) 64 76 ls st M x := Rs_ite c64_73 rfl
theorem c64_76 : qx_code 64 76 = some (76, .aload_n 0, 77, 0, 0, 0) := by decide +kernel
theorem s64_76 {L : Nat} {xs : Nat → Int32} {d x : Nat} {M : qxM} {st : List Value} {a1 a2 a3 : Option Value} {z : Nat} : Rs L xs (d) 64 76 [some (.ref z), a1, a2, a3] st M x = Rs L xs (d) 64 77 [some (.ref z), a1, a2, a3] (.ref z :: st) M x := Rs_next c64_76 rfl
theorem c64_77 : qx_code 64 77 = some (77, .aload_n 1, 78, 0, 0, 0) := by decide +kernel
theorem s64_77 {L : Nat} {xs : Nat → Int32} {d x : Nat} {M : qxM} {st : List Value} {a0 a2 a3 : Option Value} {z : Nat} : Rs L xs (d) 64 77 [a0, some (.ref z), a2, a3] st M x = Rs L xs (d) 64 78 [a0, some (.ref z), a2, a3] (.ref z :: st) M x := Rs_next c64_77 rfl
theorem c64_78 : qx_code 64 78 = some (78, .iload_n 2, 79, 0, 0, 0) := by decide +kernel
theorem s64_78 {L : Nat} {xs : Nat → Int32} {d x : Nat} {M : qxM} {st : List Value} {a0 a1 a3 : Option Value} {z : Int32} : Rs L xs (d) 64 78 [a0, a1, some (.int z), a3] st M x = Rs L xs (d) 64 79 [a0, a1, some (.int z), a3] (.int z :: st) M x := Rs_next c64_78 rfl
theorem c64_79 : qx_code 64 79 = some (79, .iload_n 3, 80, 0, 0, 0) := by decide +kernel
theorem s64_79 {L : Nat} {xs : Nat → Int32} {d x : Nat} {M : qxM} {st : List Value} {a0 a1 a2 : Option Value} {z : Int32} : Rs L xs (d) 64 79 [a0, a1, a2, some (.int z)] st M x = Rs L xs (d) 64 80 [a0, a1, a2, some (.int z)] (.int z :: st) M x := Rs_next c64_79 rfl
theorem c64_80 : qx_code 64 80 = some (80, .invokevirtual 126, 83, 68, 4, 1270) := by decide +kernel
theorem s64_80 {L : Nat} {xs : Nat → Int32} {d x : Nat} {M : qxM} {st : List Value} {ls : qxL} {t : Nat} {z0 : Nat} {z1 : Int32} {z2 : Int32} (hk : qx_kd t = 13) (hs : st.length ≤ 4) : Rs L xs (d + 1) 64 80 ls (.int z2 :: .int z1 :: .ref z0 :: .ref t :: st) M x = (Rs L xs d 68 0 [some (.ref t), some (.ref z0), some (.int z1), some (.int z2), none, none, none, none] [] M 0).bind (qx_kn L xs (d + 1) 64 80 83 68 ls st x) := by
  have h1 : qx_act L xs (qx_rt 64) (80, .invokevirtual 126, 83, 68, 4, 1270) ls (.int z2 :: .int z1 :: .ref z0 :: .ref t :: st) M = if 4 ≤ (.int z2 :: .int z1 :: .ref z0 :: .ref t :: st).length ∧ st.length ≤ 4 then some (.inr (.inr (.inr (68, [.ref t, .ref z0, .int z1, .int z2], st)))) else none := rfl
  rw [if_pos ⟨by simp [List.length_cons]; try omega, hs⟩] at h1
  have h2 := qx_kd_obj (k := 3) (by decide) hk
  exact Rs_call c64_80 h1 (by rw [show qx_args 68 [.ref t, .ref z0, .int z1, .int z2] = decide (qx_sh t = some (.inl 3)) from rfl]; exact decide_eq_true h2)
theorem c64_83 : qx_code 64 83 = some (83, .iconst 2, 84, 0, 0, 0) := by decide +kernel
theorem s64_83 {L : Nat} {xs : Nat → Int32} {d x : Nat} {M : qxM} {st : List Value} {ls : qxL} : Rs L xs (d) 64 83 ls st M x = Rs L xs (d) 64 84 ls (.int (nI 2) :: st) M x := Rs_next c64_83 rfl
theorem c64_84 : qx_code 64 84 = some (84, .ireturn, 85, 0, 0, 0) := by decide +kernel
theorem s64_84 {L : Nat} {xs : Nat → Int32} {d x : Nat} {M : qxM} {ls : qxL} {z : Int32} : Rs L xs (d) 64 84 ls [.int z] M x = some (.inl (some (.int z)), M, x) := Rs_ret c64_84 rfl
theorem c64_85 : qx_code 64 85 = some (85, .aload_n 1, 86, 0, 0, 0) := by decide +kernel
theorem s64_85 {L : Nat} {xs : Nat → Int32} {d x : Nat} {M : qxM} {st : List Value} {a0 a2 a3 : Option Value} {z : Nat} : Rs L xs (d) 64 85 [a0, some (.ref z), a2, a3] st M x = Rs L xs (d) 64 86 [a0, some (.ref z), a2, a3] (.ref z :: st) M x := Rs_next c64_85 rfl
theorem c64_86 : qx_code 64 86 = some (86, .iload_n 3, 87, 0, 0, 0) := by decide +kernel
theorem s64_86 {L : Nat} {xs : Nat → Int32} {d x : Nat} {M : qxM} {st : List Value} {a0 a1 a2 : Option Value} {z : Int32} : Rs L xs (d) 64 86 [a0, a1, a2, some (.int z)] st M x = Rs L xs (d) 64 87 [a0, a1, a2, some (.int z)] (.int z :: st) M x := Rs_next c64_86 rfl
theorem c64_87 : qx_code 64 87 = some (87, .invokevirtual 130, 90, 47, 2, 1302) := by decide +kernel
theorem s64_87 {L : Nat} {xs : Nat → Int32} {d x : Nat} {M : qxM} {st : List Value} {ls : qxL} {t : Nat} {z0 : Int32} (hk : qx_kd t = 12) (hs : st.length ≤ 4) : Rs L xs (d + 1) 64 87 ls (.int z0 :: .ref t :: st) M x = (Rs L xs d 47 0 [some (.ref t), some (.int z0)] [] M 0).bind (qx_kn L xs (d + 1) 64 87 90 47 ls st x) := by
  have h1 : qx_act L xs (qx_rt 64) (87, .invokevirtual 130, 90, 47, 2, 1302) ls (.int z0 :: .ref t :: st) M = if 2 ≤ (.int z0 :: .ref t :: st).length ∧ st.length ≤ 4 then some (.inr (.inr (.inr (47, [.ref t, .int z0], st)))) else none := rfl
  rw [if_pos ⟨by simp [List.length_cons]; try omega, hs⟩] at h1
  have h2 := qx_kd_obj (k := 2) (by decide) hk
  exact Rs_call c64_87 h1 (by rw [show qx_args 47 [.ref t, .int z0] = decide (qx_sh t = some (.inl 2)) from rfl]; exact decide_eq_true h2)
theorem c64_90 : qx_code 64 90 = some (90, .ifCond .eq 25, 93, 115, 0, 0) := by decide +kernel
theorem s64_90 {L : Nat} {xs : Nat → Int32} {d x : Nat} {M : qxM} {st : List Value} {ls : qxL} {z : Int32} : Rs L xs (d) 64 90 ls (.int z :: st) M x = if z = 0 then Rs L xs (d) 64 115 ls st M x else Rs L xs (d) 64 93 ls st M x := Rs_ite c64_90 rfl
theorem c64_93 : qx_code 64 93 = some (93, .aload_n 1, 94, 0, 0, 0) := by decide +kernel
theorem s64_93 {L : Nat} {xs : Nat → Int32} {d x : Nat} {M : qxM} {st : List Value} {a0 a2 a3 : Option Value} {z : Nat} : Rs L xs (d) 64 93 [a0, some (.ref z), a2, a3] st M x = Rs L xs (d) 64 94 [a0, some (.ref z), a2, a3] (.ref z :: st) M x := Rs_next c64_93 rfl
theorem c64_94 : qx_code 64 94 = some (94, .aload_n 0, 95, 0, 0, 0) := by decide +kernel
theorem s64_94 {L : Nat} {xs : Nat → Int32} {d x : Nat} {M : qxM} {st : List Value} {a1 a2 a3 : Option Value} {z : Nat} : Rs L xs (d) 64 94 [some (.ref z), a1, a2, a3] st M x = Rs L xs (d) 64 95 [some (.ref z), a1, a2, a3] (.ref z :: st) M x := Rs_next c64_94 rfl
theorem c64_95 : qx_code 64 95 = some (95, .getfield 30, 98, 3, 14, 322) := by decide +kernel
theorem s64_95 {L : Nat} {xs : Nat → Int32} {d x : Nat} {M : qxM} {st : List Value} {ls : qxL} {t : Nat} (hk : qx_kd t = 13) : Rs L xs (d) 64 95 ls (.ref t :: st) M x = Rs L xs (d) 64 98 ls (.ref (t + 6) :: st) M x := Rs_when (qx_kd_obj (k := 3) (by decide) hk) c64_95 rfl
theorem c64_98 : qx_code 64 98 = some (98, .iload_n 2, 99, 0, 0, 0) := by decide +kernel
theorem s64_98 {L : Nat} {xs : Nat → Int32} {d x : Nat} {M : qxM} {st : List Value} {a0 a1 a3 : Option Value} {z : Int32} : Rs L xs (d) 64 98 [a0, a1, some (.int z), a3] st M x = Rs L xs (d) 64 99 [a0, a1, some (.int z), a3] (.int z :: st) M x := Rs_next c64_98 rfl
theorem c64_99 : qx_code 64 99 = some (99, .invokevirtual 134, 102, 52, 3, 1303) := by decide +kernel
theorem s64_99 {L : Nat} {xs : Nat → Int32} {d x : Nat} {M : qxM} {st : List Value} {ls : qxL} {t : Nat} {z0 : Nat} {z1 : Int32} (hk : qx_kd t = 12) (hs : st.length ≤ 4) : Rs L xs (d + 1) 64 99 ls (.int z1 :: .ref z0 :: .ref t :: st) M x = (Rs L xs d 52 0 [some (.ref t), some (.ref z0), some (.int z1), none, none] [] M 0).bind (qx_kn L xs (d + 1) 64 99 102 52 ls st x) := by
  have h1 : qx_act L xs (qx_rt 64) (99, .invokevirtual 134, 102, 52, 3, 1303) ls (.int z1 :: .ref z0 :: .ref t :: st) M = if 3 ≤ (.int z1 :: .ref z0 :: .ref t :: st).length ∧ st.length ≤ 4 then some (.inr (.inr (.inr (52, [.ref t, .ref z0, .int z1], st)))) else none := rfl
  rw [if_pos ⟨by simp [List.length_cons]; try omega, hs⟩] at h1
  have h2 := qx_kd_obj (k := 2) (by decide) hk
  exact Rs_call c64_99 h1 (by rw [show qx_args 52 [.ref t, .ref z0, .int z1] = decide (qx_sh t = some (.inl 2)) from rfl]; exact decide_eq_true h2)
theorem c64_102 : qx_code 64 102 = some (102, .aload_n 1, 103, 0, 0, 0) := by decide +kernel
theorem s64_102 {L : Nat} {xs : Nat → Int32} {d x : Nat} {M : qxM} {st : List Value} {a0 a2 a3 : Option Value} {z : Nat} : Rs L xs (d) 64 102 [a0, some (.ref z), a2, a3] st M x = Rs L xs (d) 64 103 [a0, some (.ref z), a2, a3] (.ref z :: st) M x := Rs_next c64_102 rfl
theorem c64_103 : qx_code 64 103 = some (103, .iload_n 2, 104, 0, 0, 0) := by decide +kernel
theorem s64_103 {L : Nat} {xs : Nat → Int32} {d x : Nat} {M : qxM} {st : List Value} {a0 a1 a3 : Option Value} {z : Int32} : Rs L xs (d) 64 103 [a0, a1, some (.int z), a3] st M x = Rs L xs (d) 64 104 [a0, a1, some (.int z), a3] (.int z :: st) M x := Rs_next c64_103 rfl
theorem c64_104 : qx_code 64 104 = some (104, .iload_n 3, 105, 0, 0, 0) := by decide +kernel
theorem s64_104 {L : Nat} {xs : Nat → Int32} {d x : Nat} {M : qxM} {st : List Value} {a0 a1 a2 : Option Value} {z : Int32} : Rs L xs (d) 64 104 [a0, a1, a2, some (.int z)] st M x = Rs L xs (d) 64 105 [a0, a1, a2, some (.int z)] (.int z :: st) M x := Rs_next c64_104 rfl
theorem c64_105 : qx_code 64 105 = some (105, .invokevirtual 138, 108, 49, 3, 1310) := by decide +kernel
theorem s64_105 {L : Nat} {xs : Nat → Int32} {d x : Nat} {M : qxM} {st : List Value} {ls : qxL} {t : Nat} {z0 : Int32} {z1 : Int32} (hk : qx_kd t = 12) (hs : st.length ≤ 4) : Rs L xs (d + 1) 64 105 ls (.int z1 :: .int z0 :: .ref t :: st) M x = (Rs L xs d 49 0 [some (.ref t), some (.int z0), some (.int z1)] [] M 0).bind (qx_kn L xs (d + 1) 64 105 108 49 ls st x) := by
  have h1 : qx_act L xs (qx_rt 64) (105, .invokevirtual 138, 108, 49, 3, 1310) ls (.int z1 :: .int z0 :: .ref t :: st) M = if 3 ≤ (.int z1 :: .int z0 :: .ref t :: st).length ∧ st.length ≤ 4 then some (.inr (.inr (.inr (49, [.ref t, .int z0, .int z1], st)))) else none := rfl
  rw [if_pos ⟨by simp [List.length_cons]; try omega, hs⟩] at h1
  have h2 := qx_kd_obj (k := 2) (by decide) hk
  exact Rs_call c64_105 h1 (by rw [show qx_args 49 [.ref t, .int z0, .int z1] = decide (qx_sh t = some (.inl 2)) from rfl]; exact decide_eq_true h2)
theorem c64_108 : qx_code 64 108 = some (108, .aload_n 0, 109, 0, 0, 0) := by decide +kernel
theorem s64_108 {L : Nat} {xs : Nat → Int32} {d x : Nat} {M : qxM} {st : List Value} {a1 a2 a3 : Option Value} {z : Nat} : Rs L xs (d) 64 108 [some (.ref z), a1, a2, a3] st M x = Rs L xs (d) 64 109 [some (.ref z), a1, a2, a3] (.ref z :: st) M x := Rs_next c64_108 rfl
theorem c64_109 : qx_code 64 109 = some (109, .iconst 2, 110, 0, 0, 0) := by decide +kernel
theorem s64_109 {L : Nat} {xs : Nat → Int32} {d x : Nat} {M : qxM} {st : List Value} {ls : qxL} : Rs L xs (d) 64 109 ls st M x = Rs L xs (d) 64 110 ls (.int (nI 2) :: st) M x := Rs_next c64_109 rfl
theorem c64_110 : qx_code 64 110 = some (110, .putfield 34, 113, 3, 0, 296) := by decide +kernel
theorem s64_110 {L : Nat} {xs : Nat → Int32} {d x : Nat} {M : qxM} {st : List Value} {ls : qxL} {t : Nat} {z : Int32} (hk : qx_kd t = 13) : Rs L xs (d) 64 110 ls (.int z :: .ref t :: st) M x = Rs L xs (d) 64 113 ls st (qx_up M t 0 z) x := Rs_when (cnd := qx_sh t = some (.inl 3) ∧ qx_fo 3 0 = none ∧ (qx_bf 3 0 = true → z = 0 ∨ z = 1)) ⟨qx_kd_obj (k := 3) (by decide) hk, rfl, fun h => nomatch h⟩ c64_110 rfl
theorem c64_113 : qx_code 64 113 = some (113, .iconst 3, 114, 0, 0, 0) := by decide +kernel
theorem s64_113 {L : Nat} {xs : Nat → Int32} {d x : Nat} {M : qxM} {st : List Value} {ls : qxL} : Rs L xs (d) 64 113 ls st M x = Rs L xs (d) 64 114 ls (.int (nI 3) :: st) M x := Rs_next c64_113 rfl
theorem c64_114 : qx_code 64 114 = some (114, .ireturn, 115, 0, 0, 0) := by decide +kernel
theorem s64_114 {L : Nat} {xs : Nat → Int32} {d x : Nat} {M : qxM} {ls : qxL} {z : Int32} : Rs L xs (d) 64 114 ls [.int z] M x = some (.inl (some (.int z)), M, x) := Rs_ret c64_114 rfl
theorem c64_115 : qx_code 64 115 = some (115, .aload_n 0, 116, 0, 0, 0) := by decide +kernel
theorem s64_115 {L : Nat} {xs : Nat → Int32} {d x : Nat} {M : qxM} {st : List Value} {a1 a2 a3 : Option Value} {z : Nat} : Rs L xs (d) 64 115 [some (.ref z), a1, a2, a3] st M x = Rs L xs (d) 64 116 [some (.ref z), a1, a2, a3] (.ref z :: st) M x := Rs_next c64_115 rfl
theorem c64_116 : qx_code 64 116 = some (116, .iload_n 2, 117, 0, 0, 0) := by decide +kernel
theorem s64_116 {L : Nat} {xs : Nat → Int32} {d x : Nat} {M : qxM} {st : List Value} {a0 a1 a3 : Option Value} {z : Int32} : Rs L xs (d) 64 116 [a0, a1, some (.int z), a3] st M x = Rs L xs (d) 64 117 [a0, a1, some (.int z), a3] (.int z :: st) M x := Rs_next c64_116 rfl
theorem c64_117 : qx_code 64 117 = some (117, .iload_n 3, 118, 0, 0, 0) := by decide +kernel
theorem s64_117 {L : Nat} {xs : Nat → Int32} {d x : Nat} {M : qxM} {st : List Value} {a0 a1 a2 : Option Value} {z : Int32} : Rs L xs (d) 64 117 [a0, a1, a2, some (.int z)] st M x = Rs L xs (d) 64 118 [a0, a1, a2, some (.int z)] (.int z :: st) M x := Rs_next c64_117 rfl
theorem c64_118 : qx_code 64 118 = some (118, .aload_n 1, 119, 0, 0, 0) := by decide +kernel
theorem s64_118 {L : Nat} {xs : Nat → Int32} {d x : Nat} {M : qxM} {st : List Value} {a0 a2 a3 : Option Value} {z : Nat} : Rs L xs (d) 64 118 [a0, some (.ref z), a2, a3] st M x = Rs L xs (d) 64 119 [a0, some (.ref z), a2, a3] (.ref z :: st) M x := Rs_next c64_118 rfl
theorem c64_119 : qx_code 64 119 = some (119, .iload_n 3, 120, 0, 0, 0) := by decide +kernel
theorem s64_119 {L : Nat} {xs : Nat → Int32} {d x : Nat} {M : qxM} {st : List Value} {a0 a1 a2 : Option Value} {z : Int32} : Rs L xs (d) 64 119 [a0, a1, a2, some (.int z)] st M x = Rs L xs (d) 64 120 [a0, a1, a2, some (.int z)] (.int z :: st) M x := Rs_next c64_119 rfl
theorem c64_120 : qx_code 64 120 = some (120, .invokevirtual 141, 123, 46, 2, 1282) := by decide +kernel
theorem s64_120 {L : Nat} {xs : Nat → Int32} {d x : Nat} {M : qxM} {st : List Value} {ls : qxL} {t : Nat} {z0 : Int32} (hk : qx_kd t = 12) (hs : st.length ≤ 4) : Rs L xs (d + 1) 64 120 ls (.int z0 :: .ref t :: st) M x = (Rs L xs d 46 0 [some (.ref t), some (.int z0)] [] M 0).bind (qx_kn L xs (d + 1) 64 120 123 46 ls st x) := by
  have h1 : qx_act L xs (qx_rt 64) (120, .invokevirtual 141, 123, 46, 2, 1282) ls (.int z0 :: .ref t :: st) M = if 2 ≤ (.int z0 :: .ref t :: st).length ∧ st.length ≤ 4 then some (.inr (.inr (.inr (46, [.ref t, .int z0], st)))) else none := rfl
  rw [if_pos ⟨by simp [List.length_cons]; try omega, hs⟩] at h1
  have h2 := qx_kd_obj (k := 2) (by decide) hk
  exact Rs_call c64_120 h1 (by rw [show qx_args 46 [.ref t, .int z0] = decide (qx_sh t = some (.inl 2)) from rfl]; exact decide_eq_true h2)
theorem c64_123 : qx_code 64 123 = some (123, .invokevirtual 144, 126, 67, 4, 1311) := by decide +kernel
theorem s64_123 {L : Nat} {xs : Nat → Int32} {d x : Nat} {M : qxM} {st : List Value} {ls : qxL} {t : Nat} {z0 : Int32} {z1 : Int32} {z2 : Int32} (hk : qx_kd t = 13) (hs : st.length ≤ 4) : Rs L xs (d + 1) 64 123 ls (.int z2 :: .int z1 :: .int z0 :: .ref t :: st) M x = (Rs L xs d 67 0 [some (.ref t), some (.int z0), some (.int z1), some (.int z2)] [] M 0).bind (qx_kn L xs (d + 1) 64 123 126 67 ls st x) := by
  have h1 : qx_act L xs (qx_rt 64) (123, .invokevirtual 144, 126, 67, 4, 1311) ls (.int z2 :: .int z1 :: .int z0 :: .ref t :: st) M = if 4 ≤ (.int z2 :: .int z1 :: .int z0 :: .ref t :: st).length ∧ st.length ≤ 4 then some (.inr (.inr (.inr (67, [.ref t, .int z0, .int z1, .int z2], st)))) else none := rfl
  rw [if_pos ⟨by simp [List.length_cons]; try omega, hs⟩] at h1
  have h2 := qx_kd_obj (k := 3) (by decide) hk
  exact Rs_call c64_123 h1 (by rw [show qx_args 67 [.ref t, .int z0, .int z1, .int z2] = decide (qx_sh t = some (.inl 3)) from rfl]; exact decide_eq_true h2)
theorem c64_126 : qx_code 64 126 = some (126, .iconst 1, 127, 0, 0, 0) := by decide +kernel
theorem s64_126 {L : Nat} {xs : Nat → Int32} {d x : Nat} {M : qxM} {st : List Value} {ls : qxL} : Rs L xs (d) 64 126 ls st M x = Rs L xs (d) 64 127 ls (.int (nI 1) :: st) M x := Rs_next c64_126 rfl
theorem c64_127 : qx_code 64 127 = some (127, .ireturn, 128, 0, 0, 0) := by decide +kernel
theorem s64_127 {L : Nat} {xs : Nat → Int32} {d x : Nat} {M : qxM} {ls : qxL} {z : Int32} : Rs L xs (d) 64 127 ls [.int z] M x = some (.inl (some (.int z)), M, x) := Rs_ret c64_127 rfl
theorem c65_0 : qx_code 65 0 = some (0, .aload_n 0, 1, 0, 0, 0) := by decide +kernel
theorem s65_0 {L : Nat} {xs : Nat → Int32} {d x : Nat} {M : qxM} {st : List Value} {z : Nat} : Rs L xs (d) 65 0 [some (.ref z)] st M x = Rs L xs (d) 65 1 [some (.ref z)] (.ref z :: st) M x := Rs_next c65_0 rfl
theorem c65_1 : qx_code 65 1 = some (1, .dup, 2, 0, 0, 0) := by decide +kernel
theorem s65_1r {L : Nat} {xs : Nat → Int32} {d x : Nat} {M : qxM} {st : List Value} {ls : qxL} {z : Nat} : Rs L xs (d) 65 1 ls (.ref z :: st) M x = Rs L xs (d) 65 2 ls (.ref z :: .ref z :: st) M x := Rs_next c65_1 rfl
theorem s65_1i {L : Nat} {xs : Nat → Int32} {d x : Nat} {M : qxM} {st : List Value} {ls : qxL} {z : Int32} : Rs L xs (d) 65 1 ls (.int z :: st) M x = Rs L xs (d) 65 2 ls (.int z :: .int z :: st) M x := Rs_next c65_1 rfl
theorem c65_2 : qx_code 65 2 = some (2, .getfield 53, 5, 3, 6, 311) := by decide +kernel
theorem s65_2 {L : Nat} {xs : Nat → Int32} {d x : Nat} {M : qxM} {st : List Value} {ls : qxL} {t : Nat} (hk : qx_kd t = 13) : Rs L xs (d) 65 2 ls (.ref t :: st) M x = Rs L xs (d) 65 5 ls (.int (M.1 t 6) :: st) M x := Rs_when (qx_kd_obj (k := 3) (by decide) hk) c65_2 rfl
theorem c65_5 : qx_code 65 5 = some (5, .iconst 1, 6, 0, 0, 0) := by decide +kernel
theorem s65_5 {L : Nat} {xs : Nat → Int32} {d x : Nat} {M : qxM} {st : List Value} {ls : qxL} : Rs L xs (d) 65 5 ls st M x = Rs L xs (d) 65 6 ls (.int (nI 1) :: st) M x := Rs_next c65_5 rfl
theorem c65_6 : qx_code 65 6 = some (6, .iadd, 7, 0, 0, 0) := by decide +kernel
theorem s65_6 {L : Nat} {xs : Nat → Int32} {d x : Nat} {M : qxM} {st : List Value} {ls : qxL} {z y : Int32} : Rs L xs (d) 65 6 ls (.int y :: .int z :: st) M x = Rs L xs (d) 65 7 ls (.int (z + y) :: st) M x := Rs_next c65_6 rfl
theorem c65_7 : qx_code 65 7 = some (7, .putfield 53, 10, 3, 6, 311) := by decide +kernel
theorem s65_7 {L : Nat} {xs : Nat → Int32} {d x : Nat} {M : qxM} {st : List Value} {ls : qxL} {t : Nat} {z : Int32} (hk : qx_kd t = 13) : Rs L xs (d) 65 7 ls (.int z :: .ref t :: st) M x = Rs L xs (d) 65 10 ls st (qx_up M t 6 z) x := Rs_when (cnd := qx_sh t = some (.inl 3) ∧ qx_fo 3 6 = none ∧ (qx_bf 3 6 = true → z = 0 ∨ z = 1)) ⟨qx_kd_obj (k := 3) (by decide) hk, rfl, fun h => nomatch h⟩ c65_7 rfl
theorem c65_10 : qx_code 65 10 = some (10, .aload_n 0, 11, 0, 0, 0) := by decide +kernel
theorem s65_10 {L : Nat} {xs : Nat → Int32} {d x : Nat} {M : qxM} {st : List Value} {z : Nat} : Rs L xs (d) 65 10 [some (.ref z)] st M x = Rs L xs (d) 65 11 [some (.ref z)] (.ref z :: st) M x := Rs_next c65_10 rfl
theorem c65_11 : qx_code 65 11 = some (11, .iconst 0, 12, 0, 0, 0) := by decide +kernel
theorem s65_11 {L : Nat} {xs : Nat → Int32} {d x : Nat} {M : qxM} {st : List Value} {ls : qxL} : Rs L xs (d) 65 11 ls st M x = Rs L xs (d) 65 12 ls (.int (nI 0) :: st) M x := Rs_next c65_11 rfl
theorem c65_12 : qx_code 65 12 = some (12, .putfield 59, 15, 3, 8, 313) := by decide +kernel
theorem s65_12 {L : Nat} {xs : Nat → Int32} {d x : Nat} {M : qxM} {st : List Value} {ls : qxL} {t : Nat} {z : Int32} (hk : qx_kd t = 13) : Rs L xs (d) 65 12 ls (.int z :: .ref t :: st) M x = Rs L xs (d) 65 15 ls st (qx_up M t 8 z) x := Rs_when (cnd := qx_sh t = some (.inl 3) ∧ qx_fo 3 8 = none ∧ (qx_bf 3 8 = true → z = 0 ∨ z = 1)) ⟨qx_kd_obj (k := 3) (by decide) hk, rfl, fun h => nomatch h⟩ c65_12 rfl
theorem c65_15 : qx_code 65 15 = some (15, .aload_n 0, 16, 0, 0, 0) := by decide +kernel
theorem s65_15 {L : Nat} {xs : Nat → Int32} {d x : Nat} {M : qxM} {st : List Value} {z : Nat} : Rs L xs (d) 65 15 [some (.ref z)] st M x = Rs L xs (d) 65 16 [some (.ref z)] (.ref z :: st) M x := Rs_next c65_15 rfl
theorem c65_16 : qx_code 65 16 = some (16, .invokevirtual 100, 19, 60, 1, 919) := by decide +kernel
theorem s65_16 {L : Nat} {xs : Nat → Int32} {d x : Nat} {M : qxM} {st : List Value} {ls : qxL} {t : Nat} (hk : qx_kd t = 13) (hs : st.length ≤ 4) : Rs L xs (d + 1) 65 16 ls (.ref t :: st) M x = (Rs L xs d 60 0 [some (.ref t)] [] M 0).bind (qx_kn L xs (d + 1) 65 16 19 60 ls st x) := by
  have h1 : qx_act L xs (qx_rt 65) (16, .invokevirtual 100, 19, 60, 1, 919) ls (.ref t :: st) M = if 1 ≤ (.ref t :: st).length ∧ st.length ≤ 4 then some (.inr (.inr (.inr (60, [.ref t], st)))) else none := rfl
  rw [if_pos ⟨by simp [List.length_cons]; try omega, hs⟩] at h1
  have h2 := qx_kd_obj (k := 3) (by decide) hk
  exact Rs_call c65_16 h1 (by rw [show qx_args 60 [.ref t] = decide (qx_sh t = some (.inl 3)) from rfl]; exact decide_eq_true h2)
theorem c65_19 : qx_code 65 19 = some (19, .ifCond .le 5, 22, 24, 0, 0) := by decide +kernel
theorem s65_19 {L : Nat} {xs : Nat → Int32} {d x : Nat} {M : qxM} {st : List Value} {ls : qxL} {z : Int32} : Rs L xs (d) 65 19 ls (.int z :: st) M x = if z ≤ 0 then Rs L xs (d) 65 24 ls st M x else Rs L xs (d) 65 22 ls st M x := Rs_ite c65_19 rfl
theorem c65_22 : qx_code 65 22 = some (22, .iconst 5, 23, 0, 0, 0) := by decide +kernel
theorem s65_22 {L : Nat} {xs : Nat → Int32} {d x : Nat} {M : qxM} {st : List Value} {ls : qxL} : Rs L xs (d) 65 22 ls st M x = Rs L xs (d) 65 23 ls (.int (nI 5) :: st) M x := Rs_next c65_22 rfl
theorem c65_23 : qx_code 65 23 = some (23, .ireturn, 24, 0, 0, 0) := by decide +kernel
theorem s65_23 {L : Nat} {xs : Nat → Int32} {d x : Nat} {M : qxM} {ls : qxL} {z : Int32} : Rs L xs (d) 65 23 ls [.int z] M x = some (.inl (some (.int z)), M, x) := Rs_ret c65_23 rfl
theorem c65_24 : qx_code 65 24 = some (24, .aload_n 0, 25, 0, 0, 0) := by decide +kernel
theorem s65_24 {L : Nat} {xs : Nat → Int32} {d x : Nat} {M : qxM} {st : List Value} {z : Nat} : Rs L xs (d) 65 24 [some (.ref z)] st M x = Rs L xs (d) 65 25 [some (.ref z)] (.ref z :: st) M x := Rs_next c65_24 rfl
theorem c65_25 : qx_code 65 25 = some (25, .iconst 3, 26, 0, 0, 0) := by decide +kernel
theorem s65_25 {L : Nat} {xs : Nat → Int32} {d x : Nat} {M : qxM} {st : List Value} {ls : qxL} : Rs L xs (d) 65 25 ls st M x = Rs L xs (d) 65 26 ls (.int (nI 3) :: st) M x := Rs_next c65_25 rfl
theorem c65_26 : qx_code 65 26 = some (26, .putfield 34, 29, 3, 0, 296) := by decide +kernel
theorem s65_26 {L : Nat} {xs : Nat → Int32} {d x : Nat} {M : qxM} {st : List Value} {ls : qxL} {t : Nat} {z : Int32} (hk : qx_kd t = 13) : Rs L xs (d) 65 26 ls (.int z :: .ref t :: st) M x = Rs L xs (d) 65 29 ls st (qx_up M t 0 z) x := Rs_when (cnd := qx_sh t = some (.inl 3) ∧ qx_fo 3 0 = none ∧ (qx_bf 3 0 = true → z = 0 ∨ z = 1)) ⟨qx_kd_obj (k := 3) (by decide) hk, rfl, fun h => nomatch h⟩ c65_26 rfl
theorem c65_29 : qx_code 65 29 = some (29, .iconst 4, 30, 0, 0, 0) := by decide +kernel
theorem s65_29 {L : Nat} {xs : Nat → Int32} {d x : Nat} {M : qxM} {st : List Value} {ls : qxL} : Rs L xs (d) 65 29 ls st M x = Rs L xs (d) 65 30 ls (.int (nI 4) :: st) M x := Rs_next c65_29 rfl
theorem c65_30 : qx_code 65 30 = some (30, .ireturn, 31, 0, 0, 0) := by decide +kernel
theorem s65_30 {L : Nat} {xs : Nat → Int32} {d x : Nat} {M : qxM} {ls : qxL} {z : Int32} : Rs L xs (d) 65 30 ls [.int z] M x = some (.inl (some (.int z)), M, x) := Rs_ret c65_30 rfl
theorem c66_0 : qx_code 66 0 = some (0, .aload_n 0, 1, 0, 0, 0) := by decide +kernel
theorem s66_0 {L : Nat} {xs : Nat → Int32} {d x : Nat} {M : qxM} {st : List Value} {a1 : Option Value} {z : Nat} : Rs L xs (d) 66 0 [some (.ref z), a1] st M x = Rs L xs (d) 66 1 [some (.ref z), a1] (.ref z :: st) M x := Rs_next c66_0 rfl
theorem c66_1 : qx_code 66 1 = some (1, .dup, 2, 0, 0, 0) := by decide +kernel
theorem s66_1r {L : Nat} {xs : Nat → Int32} {d x : Nat} {M : qxM} {st : List Value} {ls : qxL} {z : Nat} : Rs L xs (d) 66 1 ls (.ref z :: st) M x = Rs L xs (d) 66 2 ls (.ref z :: .ref z :: st) M x := Rs_next c66_1 rfl
theorem s66_1i {L : Nat} {xs : Nat → Int32} {d x : Nat} {M : qxM} {st : List Value} {ls : qxL} {z : Int32} : Rs L xs (d) 66 1 ls (.int z :: st) M x = Rs L xs (d) 66 2 ls (.int z :: .int z :: st) M x := Rs_next c66_1 rfl
theorem c66_2 : qx_code 66 2 = some (2, .getfield 47, 5, 3, 4, 307) := by decide +kernel
theorem s66_2 {L : Nat} {xs : Nat → Int32} {d x : Nat} {M : qxM} {st : List Value} {ls : qxL} {t : Nat} (hk : qx_kd t = 13) : Rs L xs (d) 66 2 ls (.ref t :: st) M x = Rs L xs (d) 66 5 ls (.int (M.1 t 4) :: st) M x := Rs_when (qx_kd_obj (k := 3) (by decide) hk) c66_2 rfl
theorem c66_5 : qx_code 66 5 = some (5, .iload_n 1, 6, 0, 0, 0) := by decide +kernel
theorem s66_5 {L : Nat} {xs : Nat → Int32} {d x : Nat} {M : qxM} {st : List Value} {a0 : Option Value} {z : Int32} : Rs L xs (d) 66 5 [a0, some (.int z)] st M x = Rs L xs (d) 66 6 [a0, some (.int z)] (.int z :: st) M x := Rs_next c66_5 rfl
theorem c66_6 : qx_code 66 6 = some (6, .invokestatic 97, 9, 169, 1, 860) := by decide +kernel
theorem s66_6 {L : Nat} {xs : Nat → Int32} {d x : Nat} {M : qxM} {st : List Value} {ls : qxL} {z0 : Int32} (hs : st.length ≤ 4) : Rs L xs (d + 1) 66 6 ls (.int z0 :: st) M x = (Rs L xs d 169 0 [some (.int z0)] [] M 0).bind (qx_kn L xs (d + 1) 66 6 9 169 ls st x) := by
  have h1 : qx_act L xs (qx_rt 66) (6, .invokestatic 97, 9, 169, 1, 860) ls (.int z0 :: st) M = if 1 ≤ (.int z0 :: st).length ∧ st.length ≤ 4 then some (.inr (.inr (.inr (169, [.int z0], st)))) else none := rfl
  rw [if_pos ⟨by simp [List.length_cons]; try omega, hs⟩] at h1
  exact Rs_call c66_6 h1 rfl
theorem c66_9 : qx_code 66 9 = some (9, .ior, 10, 0, 0, 0) := by decide +kernel
theorem s66_9 {L : Nat} {xs : Nat → Int32} {d x : Nat} {M : qxM} {st : List Value} {ls : qxL} {z y : Int32} : Rs L xs (d) 66 9 ls (.int y :: .int z :: st) M x = Rs L xs (d) 66 10 ls (.int (z ||| y) :: st) M x := Rs_next c66_9 rfl
theorem c66_10 : qx_code 66 10 = some (10, .putfield 47, 13, 3, 4, 307) := by decide +kernel
theorem s66_10 {L : Nat} {xs : Nat → Int32} {d x : Nat} {M : qxM} {st : List Value} {ls : qxL} {t : Nat} {z : Int32} (hk : qx_kd t = 13) : Rs L xs (d) 66 10 ls (.int z :: .ref t :: st) M x = Rs L xs (d) 66 13 ls st (qx_up M t 4 z) x := Rs_when (cnd := qx_sh t = some (.inl 3) ∧ qx_fo 3 4 = none ∧ (qx_bf 3 4 = true → z = 0 ∨ z = 1)) ⟨qx_kd_obj (k := 3) (by decide) hk, rfl, fun h => nomatch h⟩ c66_10 rfl
theorem c66_13 : qx_code 66 13 = some (13, .aload_n 0, 14, 0, 0, 0) := by decide +kernel
theorem s66_13 {L : Nat} {xs : Nat → Int32} {d x : Nat} {M : qxM} {st : List Value} {a1 : Option Value} {z : Nat} : Rs L xs (d) 66 13 [some (.ref z), a1] st M x = Rs L xs (d) 66 14 [some (.ref z), a1] (.ref z :: st) M x := Rs_next c66_13 rfl
theorem c66_14 : qx_code 66 14 = some (14, .dup, 15, 0, 0, 0) := by decide +kernel
theorem s66_14r {L : Nat} {xs : Nat → Int32} {d x : Nat} {M : qxM} {st : List Value} {ls : qxL} {z : Nat} : Rs L xs (d) 66 14 ls (.ref z :: st) M x = Rs L xs (d) 66 15 ls (.ref z :: .ref z :: st) M x := Rs_next c66_14 rfl
theorem s66_14i {L : Nat} {xs : Nat → Int32} {d x : Nat} {M : qxM} {st : List Value} {ls : qxL} {z : Int32} : Rs L xs (d) 66 14 ls (.int z :: st) M x = Rs L xs (d) 66 15 ls (.int z :: .int z :: st) M x := Rs_next c66_14 rfl
theorem c66_15 : qx_code 66 15 = some (15, .getfield 50, 18, 3, 5, 309) := by decide +kernel
theorem s66_15 {L : Nat} {xs : Nat → Int32} {d x : Nat} {M : qxM} {st : List Value} {ls : qxL} {t : Nat} (hk : qx_kd t = 13) : Rs L xs (d) 66 15 ls (.ref t :: st) M x = Rs L xs (d) 66 18 ls (.int (M.1 t 5) :: st) M x := Rs_when (qx_kd_obj (k := 3) (by decide) hk) c66_15 rfl
theorem c66_18 : qx_code 66 18 = some (18, .iload_n 1, 19, 0, 0, 0) := by decide +kernel
theorem s66_18 {L : Nat} {xs : Nat → Int32} {d x : Nat} {M : qxM} {st : List Value} {a0 : Option Value} {z : Int32} : Rs L xs (d) 66 18 [a0, some (.int z)] st M x = Rs L xs (d) 66 19 [a0, some (.int z)] (.int z :: st) M x := Rs_next c66_18 rfl
theorem c66_19 : qx_code 66 19 = some (19, .invokestatic 97, 22, 169, 1, 860) := by decide +kernel
theorem s66_19 {L : Nat} {xs : Nat → Int32} {d x : Nat} {M : qxM} {st : List Value} {ls : qxL} {z0 : Int32} (hs : st.length ≤ 4) : Rs L xs (d + 1) 66 19 ls (.int z0 :: st) M x = (Rs L xs d 169 0 [some (.int z0)] [] M 0).bind (qx_kn L xs (d + 1) 66 19 22 169 ls st x) := by
  have h1 : qx_act L xs (qx_rt 66) (19, .invokestatic 97, 22, 169, 1, 860) ls (.int z0 :: st) M = if 1 ≤ (.int z0 :: st).length ∧ st.length ≤ 4 then some (.inr (.inr (.inr (169, [.int z0], st)))) else none := rfl
  rw [if_pos ⟨by simp [List.length_cons]; try omega, hs⟩] at h1
  exact Rs_call c66_19 h1 rfl
theorem c66_22 : qx_code 66 22 = some (22, .iconst (-1), 23, 0, 0, 0) := by decide +kernel
theorem s66_22 {L : Nat} {xs : Nat → Int32} {d x : Nat} {M : qxM} {st : List Value} {ls : qxL} : Rs L xs (d) 66 22 ls st M x = Rs L xs (d) 66 23 ls (.int (-1) :: st) M x := Rs_next c66_22 rfl
theorem c66_23 : qx_code 66 23 = some (23, .ixor, 24, 0, 0, 0) := by decide +kernel
theorem s66_23 {L : Nat} {xs : Nat → Int32} {d x : Nat} {M : qxM} {st : List Value} {ls : qxL} {z y : Int32} : Rs L xs (d) 66 23 ls (.int y :: .int z :: st) M x = Rs L xs (d) 66 24 ls (.int (z ^^^ y) :: st) M x := Rs_next c66_23 rfl
theorem c66_24 : qx_code 66 24 = some (24, .iand, 25, 0, 0, 0) := by decide +kernel
theorem s66_24 {L : Nat} {xs : Nat → Int32} {d x : Nat} {M : qxM} {st : List Value} {ls : qxL} {z y : Int32} : Rs L xs (d) 66 24 ls (.int y :: .int z :: st) M x = Rs L xs (d) 66 25 ls (.int (z &&& y) :: st) M x := Rs_next c66_24 rfl
theorem c66_25 : qx_code 66 25 = some (25, .putfield 50, 28, 3, 5, 309) := by decide +kernel
theorem s66_25 {L : Nat} {xs : Nat → Int32} {d x : Nat} {M : qxM} {st : List Value} {ls : qxL} {t : Nat} {z : Int32} (hk : qx_kd t = 13) : Rs L xs (d) 66 25 ls (.int z :: .ref t :: st) M x = Rs L xs (d) 66 28 ls st (qx_up M t 5 z) x := Rs_when (cnd := qx_sh t = some (.inl 3) ∧ qx_fo 3 5 = none ∧ (qx_bf 3 5 = true → z = 0 ∨ z = 1)) ⟨qx_kd_obj (k := 3) (by decide) hk, rfl, fun h => nomatch h⟩ c66_25 rfl
theorem c66_28 : qx_code 66 28 = some (28, .aload_n 0, 29, 0, 0, 0) := by decide +kernel
theorem s66_28 {L : Nat} {xs : Nat → Int32} {d x : Nat} {M : qxM} {st : List Value} {a1 : Option Value} {z : Nat} : Rs L xs (d) 66 28 [some (.ref z), a1] st M x = Rs L xs (d) 66 29 [some (.ref z), a1] (.ref z :: st) M x := Rs_next c66_28 rfl
theorem c66_29 : qx_code 66 29 = some (29, .getfield 9, 32, 3, 9, 314) := by decide +kernel
theorem s66_29 {L : Nat} {xs : Nat → Int32} {d x : Nat} {M : qxM} {st : List Value} {ls : qxL} {t : Nat} (hk : qx_kd t = 13) : Rs L xs (d) 66 29 ls (.ref t :: st) M x = Rs L xs (d) 66 32 ls (.ref (t + 1) :: st) M x := Rs_when (qx_kd_obj (k := 3) (by decide) hk) c66_29 rfl
theorem c66_32 : qx_code 66 32 = some (32, .aload_n 0, 33, 0, 0, 0) := by decide +kernel
theorem s66_32 {L : Nat} {xs : Nat → Int32} {d x : Nat} {M : qxM} {st : List Value} {a1 : Option Value} {z : Nat} : Rs L xs (d) 66 32 [some (.ref z), a1] st M x = Rs L xs (d) 66 33 [some (.ref z), a1] (.ref z :: st) M x := Rs_next c66_32 rfl
theorem c66_33 : qx_code 66 33 = some (33, .getfield 56, 36, 3, 7, 312) := by decide +kernel
theorem s66_33 {L : Nat} {xs : Nat → Int32} {d x : Nat} {M : qxM} {st : List Value} {ls : qxL} {t : Nat} (hk : qx_kd t = 13) : Rs L xs (d) 66 33 ls (.ref t :: st) M x = Rs L xs (d) 66 36 ls (.int (M.1 t 7) :: st) M x := Rs_when (qx_kd_obj (k := 3) (by decide) hk) c66_33 rfl
theorem c66_36 : qx_code 66 36 = some (36, .iload_n 1, 37, 0, 0, 0) := by decide +kernel
theorem s66_36 {L : Nat} {xs : Nat → Int32} {d x : Nat} {M : qxM} {st : List Value} {a0 : Option Value} {z : Int32} : Rs L xs (d) 66 36 [a0, some (.int z)] st M x = Rs L xs (d) 66 37 [a0, some (.int z)] (.int z :: st) M x := Rs_next c66_36 rfl
theorem c66_37 : qx_code 66 37 = some (37, .invokestatic 62, 40, 174, 3, 1241) := by decide +kernel
theorem s66_37 {L : Nat} {xs : Nat → Int32} {d x : Nat} {M : qxM} {st : List Value} {ls : qxL} {z0 : Nat} {z1 : Int32} {z2 : Int32} (hs : st.length ≤ 4) : Rs L xs (d + 1) 66 37 ls (.int z2 :: .int z1 :: .ref z0 :: st) M x = (Rs L xs d 174 0 [some (.ref z0), some (.int z1), some (.int z2)] [] M 0).bind (qx_kn L xs (d + 1) 66 37 40 174 ls st x) := by
  have h1 : qx_act L xs (qx_rt 66) (37, .invokestatic 62, 40, 174, 3, 1241) ls (.int z2 :: .int z1 :: .ref z0 :: st) M = if 3 ≤ (.int z2 :: .int z1 :: .ref z0 :: st).length ∧ st.length ≤ 4 then some (.inr (.inr (.inr (174, [.ref z0, .int z1, .int z2], st)))) else none := rfl
  rw [if_pos ⟨by simp [List.length_cons]; try omega, hs⟩] at h1
  exact Rs_call c66_37 h1 rfl
theorem c66_40 : qx_code 66 40 = some (40, .aload_n 0, 41, 0, 0, 0) := by decide +kernel
theorem s66_40 {L : Nat} {xs : Nat → Int32} {d x : Nat} {M : qxM} {st : List Value} {a1 : Option Value} {z : Nat} : Rs L xs (d) 66 40 [some (.ref z), a1] st M x = Rs L xs (d) 66 41 [some (.ref z), a1] (.ref z :: st) M x := Rs_next c66_40 rfl
theorem c66_41 : qx_code 66 41 = some (41, .dup, 42, 0, 0, 0) := by decide +kernel
theorem s66_41r {L : Nat} {xs : Nat → Int32} {d x : Nat} {M : qxM} {st : List Value} {ls : qxL} {z : Nat} : Rs L xs (d) 66 41 ls (.ref z :: st) M x = Rs L xs (d) 66 42 ls (.ref z :: .ref z :: st) M x := Rs_next c66_41 rfl
theorem s66_41i {L : Nat} {xs : Nat → Int32} {d x : Nat} {M : qxM} {st : List Value} {ls : qxL} {z : Int32} : Rs L xs (d) 66 41 ls (.int z :: st) M x = Rs L xs (d) 66 42 ls (.int z :: .int z :: st) M x := Rs_next c66_41 rfl
theorem c66_42 : qx_code 66 42 = some (42, .getfield 56, 45, 3, 7, 312) := by decide +kernel
theorem s66_42 {L : Nat} {xs : Nat → Int32} {d x : Nat} {M : qxM} {st : List Value} {ls : qxL} {t : Nat} (hk : qx_kd t = 13) : Rs L xs (d) 66 42 ls (.ref t :: st) M x = Rs L xs (d) 66 45 ls (.int (M.1 t 7) :: st) M x := Rs_when (qx_kd_obj (k := 3) (by decide) hk) c66_42 rfl
theorem c66_45 : qx_code 66 45 = some (45, .iconst 1, 46, 0, 0, 0) := by decide +kernel
theorem s66_45 {L : Nat} {xs : Nat → Int32} {d x : Nat} {M : qxM} {st : List Value} {ls : qxL} : Rs L xs (d) 66 45 ls st M x = Rs L xs (d) 66 46 ls (.int (nI 1) :: st) M x := Rs_next c66_45 rfl
theorem c66_46 : qx_code 66 46 = some (46, .iadd, 47, 0, 0, 0) := by decide +kernel
theorem s66_46 {L : Nat} {xs : Nat → Int32} {d x : Nat} {M : qxM} {st : List Value} {ls : qxL} {z y : Int32} : Rs L xs (d) 66 46 ls (.int y :: .int z :: st) M x = Rs L xs (d) 66 47 ls (.int (z + y) :: st) M x := Rs_next c66_46 rfl
theorem c66_47 : qx_code 66 47 = some (47, .putfield 56, 50, 3, 7, 312) := by decide +kernel
theorem s66_47 {L : Nat} {xs : Nat → Int32} {d x : Nat} {M : qxM} {st : List Value} {ls : qxL} {t : Nat} {z : Int32} (hk : qx_kd t = 13) : Rs L xs (d) 66 47 ls (.int z :: .ref t :: st) M x = Rs L xs (d) 66 50 ls st (qx_up M t 7 z) x := Rs_when (cnd := qx_sh t = some (.inl 3) ∧ qx_fo 3 7 = none ∧ (qx_bf 3 7 = true → z = 0 ∨ z = 1)) ⟨qx_kd_obj (k := 3) (by decide) hk, rfl, fun h => nomatch h⟩ c66_47 rfl
theorem c66_50 : qx_code 66 50 = some (50, .return_, 51, 0, 0, 0) := by decide +kernel
theorem s66_50 {L : Nat} {xs : Nat → Int32} {d x : Nat} {M : qxM} {ls : qxL} : Rs L xs (d) 66 50 ls [] M x = some (.inl none, M, x) := Rs_ret c66_50 rfl
theorem c67_0 : qx_code 67 0 = some (0, .aload_n 0, 1, 0, 0, 0) := by decide +kernel
theorem s67_0 {L : Nat} {xs : Nat → Int32} {d x : Nat} {M : qxM} {st : List Value} {a1 a2 a3 : Option Value} {z : Nat} : Rs L xs (d) 67 0 [some (.ref z), a1, a2, a3] st M x = Rs L xs (d) 67 1 [some (.ref z), a1, a2, a3] (.ref z :: st) M x := Rs_next c67_0 rfl
theorem c67_1 : qx_code 67 1 = some (1, .dup, 2, 0, 0, 0) := by decide +kernel
theorem s67_1r {L : Nat} {xs : Nat → Int32} {d x : Nat} {M : qxM} {st : List Value} {ls : qxL} {z : Nat} : Rs L xs (d) 67 1 ls (.ref z :: st) M x = Rs L xs (d) 67 2 ls (.ref z :: .ref z :: st) M x := Rs_next c67_1 rfl
theorem s67_1i {L : Nat} {xs : Nat → Int32} {d x : Nat} {M : qxM} {st : List Value} {ls : qxL} {z : Int32} : Rs L xs (d) 67 1 ls (.int z :: st) M x = Rs L xs (d) 67 2 ls (.int z :: .int z :: st) M x := Rs_next c67_1 rfl
theorem c67_2 : qx_code 67 2 = some (2, .getfield 50, 5, 3, 5, 309) := by decide +kernel
theorem s67_2 {L : Nat} {xs : Nat → Int32} {d x : Nat} {M : qxM} {st : List Value} {ls : qxL} {t : Nat} (hk : qx_kd t = 13) : Rs L xs (d) 67 2 ls (.ref t :: st) M x = Rs L xs (d) 67 5 ls (.int (M.1 t 5) :: st) M x := Rs_when (qx_kd_obj (k := 3) (by decide) hk) c67_2 rfl
theorem c67_5 : qx_code 67 5 = some (5, .iload_n 2, 6, 0, 0, 0) := by decide +kernel
theorem s67_5 {L : Nat} {xs : Nat → Int32} {d x : Nat} {M : qxM} {st : List Value} {a0 a1 a3 : Option Value} {z : Int32} : Rs L xs (d) 67 5 [a0, a1, some (.int z), a3] st M x = Rs L xs (d) 67 6 [a0, a1, some (.int z), a3] (.int z :: st) M x := Rs_next c67_5 rfl
theorem c67_6 : qx_code 67 6 = some (6, .invokestatic 97, 9, 169, 1, 860) := by decide +kernel
theorem s67_6 {L : Nat} {xs : Nat → Int32} {d x : Nat} {M : qxM} {st : List Value} {ls : qxL} {z0 : Int32} (hs : st.length ≤ 4) : Rs L xs (d + 1) 67 6 ls (.int z0 :: st) M x = (Rs L xs d 169 0 [some (.int z0)] [] M 0).bind (qx_kn L xs (d + 1) 67 6 9 169 ls st x) := by
  have h1 : qx_act L xs (qx_rt 67) (6, .invokestatic 97, 9, 169, 1, 860) ls (.int z0 :: st) M = if 1 ≤ (.int z0 :: st).length ∧ st.length ≤ 4 then some (.inr (.inr (.inr (169, [.int z0], st)))) else none := rfl
  rw [if_pos ⟨by simp [List.length_cons]; try omega, hs⟩] at h1
  exact Rs_call c67_6 h1 rfl
theorem c67_9 : qx_code 67 9 = some (9, .ior, 10, 0, 0, 0) := by decide +kernel
theorem s67_9 {L : Nat} {xs : Nat → Int32} {d x : Nat} {M : qxM} {st : List Value} {ls : qxL} {z y : Int32} : Rs L xs (d) 67 9 ls (.int y :: .int z :: st) M x = Rs L xs (d) 67 10 ls (.int (z ||| y) :: st) M x := Rs_next c67_9 rfl
theorem c67_10 : qx_code 67 10 = some (10, .putfield 50, 13, 3, 5, 309) := by decide +kernel
theorem s67_10 {L : Nat} {xs : Nat → Int32} {d x : Nat} {M : qxM} {st : List Value} {ls : qxL} {t : Nat} {z : Int32} (hk : qx_kd t = 13) : Rs L xs (d) 67 10 ls (.int z :: .ref t :: st) M x = Rs L xs (d) 67 13 ls st (qx_up M t 5 z) x := Rs_when (cnd := qx_sh t = some (.inl 3) ∧ qx_fo 3 5 = none ∧ (qx_bf 3 5 = true → z = 0 ∨ z = 1)) ⟨qx_kd_obj (k := 3) (by decide) hk, rfl, fun h => nomatch h⟩ c67_10 rfl
theorem c67_13 : qx_code 67 13 = some (13, .aload_n 0, 14, 0, 0, 0) := by decide +kernel
theorem s67_13 {L : Nat} {xs : Nat → Int32} {d x : Nat} {M : qxM} {st : List Value} {a1 a2 a3 : Option Value} {z : Nat} : Rs L xs (d) 67 13 [some (.ref z), a1, a2, a3] st M x = Rs L xs (d) 67 14 [some (.ref z), a1, a2, a3] (.ref z :: st) M x := Rs_next c67_13 rfl
theorem c67_14 : qx_code 67 14 = some (14, .getfield 18, 17, 3, 11, 316) := by decide +kernel
theorem s67_14 {L : Nat} {xs : Nat → Int32} {d x : Nat} {M : qxM} {st : List Value} {ls : qxL} {t : Nat} (hk : qx_kd t = 13) : Rs L xs (d) 67 14 ls (.ref t :: st) M x = Rs L xs (d) 67 17 ls (.ref (t + 3) :: st) M x := Rs_when (qx_kd_obj (k := 3) (by decide) hk) c67_14 rfl
theorem c67_17 : qx_code 67 17 = some (17, .iload_n 2, 18, 0, 0, 0) := by decide +kernel
theorem s67_17 {L : Nat} {xs : Nat → Int32} {d x : Nat} {M : qxM} {st : List Value} {a0 a1 a3 : Option Value} {z : Int32} : Rs L xs (d) 67 17 [a0, a1, some (.int z), a3] st M x = Rs L xs (d) 67 18 [a0, a1, some (.int z), a3] (.int z :: st) M x := Rs_next c67_17 rfl
theorem c67_18 : qx_code 67 18 = some (18, .iload_n 1, 19, 0, 0, 0) := by decide +kernel
theorem s67_18 {L : Nat} {xs : Nat → Int32} {d x : Nat} {M : qxM} {st : List Value} {a0 a2 a3 : Option Value} {z : Int32} : Rs L xs (d) 67 18 [a0, some (.int z), a2, a3] st M x = Rs L xs (d) 67 19 [a0, some (.int z), a2, a3] (.int z :: st) M x := Rs_next c67_18 rfl
theorem c67_19 : qx_code 67 19 = some (19, .invokestatic 62, 22, 174, 3, 1241) := by decide +kernel
theorem s67_19 {L : Nat} {xs : Nat → Int32} {d x : Nat} {M : qxM} {st : List Value} {ls : qxL} {z0 : Nat} {z1 : Int32} {z2 : Int32} (hs : st.length ≤ 4) : Rs L xs (d + 1) 67 19 ls (.int z2 :: .int z1 :: .ref z0 :: st) M x = (Rs L xs d 174 0 [some (.ref z0), some (.int z1), some (.int z2)] [] M 0).bind (qx_kn L xs (d + 1) 67 19 22 174 ls st x) := by
  have h1 : qx_act L xs (qx_rt 67) (19, .invokestatic 62, 22, 174, 3, 1241) ls (.int z2 :: .int z1 :: .ref z0 :: st) M = if 3 ≤ (.int z2 :: .int z1 :: .ref z0 :: st).length ∧ st.length ≤ 4 then some (.inr (.inr (.inr (174, [.ref z0, .int z1, .int z2], st)))) else none := rfl
  rw [if_pos ⟨by simp [List.length_cons]; try omega, hs⟩] at h1
  exact Rs_call c67_19 h1 rfl
theorem c67_22 : qx_code 67 22 = some (22, .aload_n 0, 23, 0, 0, 0) := by decide +kernel
theorem s67_22 {L : Nat} {xs : Nat → Int32} {d x : Nat} {M : qxM} {st : List Value} {a1 a2 a3 : Option Value} {z : Nat} : Rs L xs (d) 67 22 [some (.ref z), a1, a2, a3] st M x = Rs L xs (d) 67 23 [some (.ref z), a1, a2, a3] (.ref z :: st) M x := Rs_next c67_22 rfl
theorem c67_23 : qx_code 67 23 = some (23, .iload_n 3, 24, 0, 0, 0) := by decide +kernel
theorem s67_23 {L : Nat} {xs : Nat → Int32} {d x : Nat} {M : qxM} {st : List Value} {a0 a1 a2 : Option Value} {z : Int32} : Rs L xs (d) 67 23 [a0, a1, a2, some (.int z)] st M x = Rs L xs (d) 67 24 [a0, a1, a2, some (.int z)] (.int z :: st) M x := Rs_next c67_23 rfl
theorem c67_24 : qx_code 67 24 = some (24, .invokevirtual 73, 27, 66, 2, 1248) := by decide +kernel
theorem s67_24 {L : Nat} {xs : Nat → Int32} {d x : Nat} {M : qxM} {st : List Value} {ls : qxL} {t : Nat} {z0 : Int32} (hk : qx_kd t = 13) (hs : st.length ≤ 4) : Rs L xs (d + 1) 67 24 ls (.int z0 :: .ref t :: st) M x = (Rs L xs d 66 0 [some (.ref t), some (.int z0)] [] M 0).bind (qx_kn L xs (d + 1) 67 24 27 66 ls st x) := by
  have h1 : qx_act L xs (qx_rt 67) (24, .invokevirtual 73, 27, 66, 2, 1248) ls (.int z0 :: .ref t :: st) M = if 2 ≤ (.int z0 :: .ref t :: st).length ∧ st.length ≤ 4 then some (.inr (.inr (.inr (66, [.ref t, .int z0], st)))) else none := rfl
  rw [if_pos ⟨by simp [List.length_cons]; try omega, hs⟩] at h1
  have h2 := qx_kd_obj (k := 3) (by decide) hk
  exact Rs_call c67_24 h1 (by rw [show qx_args 66 [.ref t, .int z0] = decide (qx_sh t = some (.inl 3)) from rfl]; exact decide_eq_true h2)
theorem c67_27 : qx_code 67 27 = some (27, .aload_n 0, 28, 0, 0, 0) := by decide +kernel
theorem s67_27 {L : Nat} {xs : Nat → Int32} {d x : Nat} {M : qxM} {st : List Value} {a1 a2 a3 : Option Value} {z : Nat} : Rs L xs (d) 67 27 [some (.ref z), a1, a2, a3] st M x = Rs L xs (d) 67 28 [some (.ref z), a1, a2, a3] (.ref z :: st) M x := Rs_next c67_27 rfl
theorem c67_28 : qx_code 67 28 = some (28, .getfield 30, 31, 3, 14, 322) := by decide +kernel
theorem s67_28 {L : Nat} {xs : Nat → Int32} {d x : Nat} {M : qxM} {st : List Value} {ls : qxL} {t : Nat} (hk : qx_kd t = 13) : Rs L xs (d) 67 28 ls (.ref t :: st) M x = Rs L xs (d) 67 31 ls (.ref (t + 6) :: st) M x := Rs_when (qx_kd_obj (k := 3) (by decide) hk) c67_28 rfl
theorem c67_31 : qx_code 67 31 = some (31, .iload_n 3, 32, 0, 0, 0) := by decide +kernel
theorem s67_31 {L : Nat} {xs : Nat → Int32} {d x : Nat} {M : qxM} {st : List Value} {a0 a1 a2 : Option Value} {z : Int32} : Rs L xs (d) 67 31 [a0, a1, a2, some (.int z)] st M x = Rs L xs (d) 67 32 [a0, a1, a2, some (.int z)] (.int z :: st) M x := Rs_next c67_31 rfl
theorem c67_32 : qx_code 67 32 = some (32, .iload_n 3, 33, 0, 0, 0) := by decide +kernel
theorem s67_32 {L : Nat} {xs : Nat → Int32} {d x : Nat} {M : qxM} {st : List Value} {a0 a1 a2 : Option Value} {z : Int32} : Rs L xs (d) 67 32 [a0, a1, a2, some (.int z)] st M x = Rs L xs (d) 67 33 [a0, a1, a2, some (.int z)] (.int z :: st) M x := Rs_next c67_32 rfl
theorem c67_33 : qx_code 67 33 = some (33, .invokevirtual 77, 36, 89, 3, 1252) := by decide +kernel
theorem s67_33 {L : Nat} {xs : Nat → Int32} {d x : Nat} {M : qxM} {st : List Value} {ls : qxL} {t : Nat} {z0 : Int32} {z1 : Int32} (hk : qx_kd t = 16) (hs : st.length ≤ 4) : Rs L xs (d + 1) 67 33 ls (.int z1 :: .int z0 :: .ref t :: st) M x = (Rs L xs d 89 0 [some (.ref t), some (.int z0), some (.int z1), none] [] M 0).bind (qx_kn L xs (d + 1) 67 33 36 89 ls st x) := by
  have h1 : qx_act L xs (qx_rt 67) (33, .invokevirtual 77, 36, 89, 3, 1252) ls (.int z1 :: .int z0 :: .ref t :: st) M = if 3 ≤ (.int z1 :: .int z0 :: .ref t :: st).length ∧ st.length ≤ 4 then some (.inr (.inr (.inr (89, [.ref t, .int z0, .int z1], st)))) else none := rfl
  rw [if_pos ⟨by simp [List.length_cons]; try omega, hs⟩] at h1
  have h2 := qx_kd_obj (k := 6) (by decide) hk
  exact Rs_call c67_33 h1 (by rw [show qx_args 89 [.ref t, .int z0, .int z1] = decide (qx_sh t = some (.inl 6)) from rfl]; exact decide_eq_true h2)
theorem c67_36 : qx_code 67 36 = some (36, .aload_n 0, 37, 0, 0, 0) := by decide +kernel
theorem s67_36 {L : Nat} {xs : Nat → Int32} {d x : Nat} {M : qxM} {st : List Value} {a1 a2 a3 : Option Value} {z : Nat} : Rs L xs (d) 67 36 [some (.ref z), a1, a2, a3] st M x = Rs L xs (d) 67 37 [some (.ref z), a1, a2, a3] (.ref z :: st) M x := Rs_next c67_36 rfl
theorem c67_37 : qx_code 67 37 = some (37, .getfield 30, 40, 3, 14, 322) := by decide +kernel
theorem s67_37 {L : Nat} {xs : Nat → Int32} {d x : Nat} {M : qxM} {st : List Value} {ls : qxL} {t : Nat} (hk : qx_kd t = 13) : Rs L xs (d) 67 37 ls (.ref t :: st) M x = Rs L xs (d) 67 40 ls (.ref (t + 6) :: st) M x := Rs_when (qx_kd_obj (k := 3) (by decide) hk) c67_37 rfl
theorem c67_40 : qx_code 67 40 = some (40, .iload_n 3, 41, 0, 0, 0) := by decide +kernel
theorem s67_40 {L : Nat} {xs : Nat → Int32} {d x : Nat} {M : qxM} {st : List Value} {a0 a1 a2 : Option Value} {z : Int32} : Rs L xs (d) 67 40 [a0, a1, a2, some (.int z)] st M x = Rs L xs (d) 67 41 [a0, a1, a2, some (.int z)] (.int z :: st) M x := Rs_next c67_40 rfl
theorem c67_41 : qx_code 67 41 = some (41, .iload_n 2, 42, 0, 0, 0) := by decide +kernel
theorem s67_41 {L : Nat} {xs : Nat → Int32} {d x : Nat} {M : qxM} {st : List Value} {a0 a1 a3 : Option Value} {z : Int32} : Rs L xs (d) 67 41 [a0, a1, some (.int z), a3] st M x = Rs L xs (d) 67 42 [a0, a1, some (.int z), a3] (.int z :: st) M x := Rs_next c67_41 rfl
theorem c67_42 : qx_code 67 42 = some (42, .invokevirtual 77, 45, 89, 3, 1252) := by decide +kernel
theorem s67_42 {L : Nat} {xs : Nat → Int32} {d x : Nat} {M : qxM} {st : List Value} {ls : qxL} {t : Nat} {z0 : Int32} {z1 : Int32} (hk : qx_kd t = 16) (hs : st.length ≤ 4) : Rs L xs (d + 1) 67 42 ls (.int z1 :: .int z0 :: .ref t :: st) M x = (Rs L xs d 89 0 [some (.ref t), some (.int z0), some (.int z1), none] [] M 0).bind (qx_kn L xs (d + 1) 67 42 45 89 ls st x) := by
  have h1 : qx_act L xs (qx_rt 67) (42, .invokevirtual 77, 45, 89, 3, 1252) ls (.int z1 :: .int z0 :: .ref t :: st) M = if 3 ≤ (.int z1 :: .int z0 :: .ref t :: st).length ∧ st.length ≤ 4 then some (.inr (.inr (.inr (89, [.ref t, .int z0, .int z1], st)))) else none := rfl
  rw [if_pos ⟨by simp [List.length_cons]; try omega, hs⟩] at h1
  have h2 := qx_kd_obj (k := 6) (by decide) hk
  exact Rs_call c67_42 h1 (by rw [show qx_args 89 [.ref t, .int z0, .int z1] = decide (qx_sh t = some (.inl 6)) from rfl]; exact decide_eq_true h2)
theorem c67_45 : qx_code 67 45 = some (45, .aload_n 0, 46, 0, 0, 0) := by decide +kernel
theorem s67_45 {L : Nat} {xs : Nat → Int32} {d x : Nat} {M : qxM} {st : List Value} {a1 a2 a3 : Option Value} {z : Nat} : Rs L xs (d) 67 45 [some (.ref z), a1, a2, a3] st M x = Rs L xs (d) 67 46 [some (.ref z), a1, a2, a3] (.ref z :: st) M x := Rs_next c67_45 rfl
theorem c67_46 : qx_code 67 46 = some (46, .getfield 30, 49, 3, 14, 322) := by decide +kernel
theorem s67_46 {L : Nat} {xs : Nat → Int32} {d x : Nat} {M : qxM} {st : List Value} {ls : qxL} {t : Nat} (hk : qx_kd t = 13) : Rs L xs (d) 67 46 ls (.ref t :: st) M x = Rs L xs (d) 67 49 ls (.ref (t + 6) :: st) M x := Rs_when (qx_kd_obj (k := 3) (by decide) hk) c67_46 rfl
theorem c67_49 : qx_code 67 49 = some (49, .iload_n 3, 50, 0, 0, 0) := by decide +kernel
theorem s67_49 {L : Nat} {xs : Nat → Int32} {d x : Nat} {M : qxM} {st : List Value} {a0 a1 a2 : Option Value} {z : Int32} : Rs L xs (d) 67 49 [a0, a1, a2, some (.int z)] st M x = Rs L xs (d) 67 50 [a0, a1, a2, some (.int z)] (.int z :: st) M x := Rs_next c67_49 rfl
theorem c67_50 : qx_code 67 50 = some (50, .iload_n 1, 51, 0, 0, 0) := by decide +kernel
theorem s67_50 {L : Nat} {xs : Nat → Int32} {d x : Nat} {M : qxM} {st : List Value} {a0 a2 a3 : Option Value} {z : Int32} : Rs L xs (d) 67 50 [a0, some (.int z), a2, a3] st M x = Rs L xs (d) 67 51 [a0, some (.int z), a2, a3] (.int z :: st) M x := Rs_next c67_50 rfl
theorem c67_51 : qx_code 67 51 = some (51, .invokevirtual 148, 54, 90, 3, 1298) := by decide +kernel
theorem s67_51 {L : Nat} {xs : Nat → Int32} {d x : Nat} {M : qxM} {st : List Value} {ls : qxL} {t : Nat} {z0 : Int32} {z1 : Int32} (hk : qx_kd t = 16) (hs : st.length ≤ 4) : Rs L xs (d + 1) 67 51 ls (.int z1 :: .int z0 :: .ref t :: st) M x = (Rs L xs d 90 0 [some (.ref t), some (.int z0), some (.int z1), none, none] [] M 0).bind (qx_kn L xs (d + 1) 67 51 54 90 ls st x) := by
  have h1 : qx_act L xs (qx_rt 67) (51, .invokevirtual 148, 54, 90, 3, 1298) ls (.int z1 :: .int z0 :: .ref t :: st) M = if 3 ≤ (.int z1 :: .int z0 :: .ref t :: st).length ∧ st.length ≤ 4 then some (.inr (.inr (.inr (90, [.ref t, .int z0, .int z1], st)))) else none := rfl
  rw [if_pos ⟨by simp [List.length_cons]; try omega, hs⟩] at h1
  have h2 := qx_kd_obj (k := 6) (by decide) hk
  exact Rs_call c67_51 h1 (by rw [show qx_args 90 [.ref t, .int z0, .int z1] = decide (qx_sh t = some (.inl 6)) from rfl]; exact decide_eq_true h2)
theorem c67_54 : qx_code 67 54 = some (54, .return_, 55, 0, 0, 0) := by decide +kernel
theorem s67_54 {L : Nat} {xs : Nat → Int32} {d x : Nat} {M : qxM} {ls : qxL} : Rs L xs (d) 67 54 ls [] M x = some (.inl none, M, x) := Rs_ret c67_54 rfl
theorem c68_0 : qx_code 68 0 = some (0, .aload_n 0, 1, 0, 0, 0) := by decide +kernel
theorem s68_0 {L : Nat} {xs : Nat → Int32} {d x : Nat} {M : qxM} {st : List Value} {a1 a2 a3 a4 a5 a6 a7 : Option Value} {z : Nat} : Rs L xs (d) 68 0 [some (.ref z), a1, a2, a3, a4, a5, a6, a7] st M x = Rs L xs (d) 68 1 [some (.ref z), a1, a2, a3, a4, a5, a6, a7] (.ref z :: st) M x := Rs_next c68_0 rfl
theorem c68_1 : qx_code 68 1 = some (1, .dup, 2, 0, 0, 0) := by decide +kernel
theorem s68_1r {L : Nat} {xs : Nat → Int32} {d x : Nat} {M : qxM} {st : List Value} {ls : qxL} {z : Nat} : Rs L xs (d) 68 1 ls (.ref z :: st) M x = Rs L xs (d) 68 2 ls (.ref z :: .ref z :: st) M x := Rs_next c68_1 rfl
theorem s68_1i {L : Nat} {xs : Nat → Int32} {d x : Nat} {M : qxM} {st : List Value} {ls : qxL} {z : Int32} : Rs L xs (d) 68 1 ls (.int z :: st) M x = Rs L xs (d) 68 2 ls (.int z :: .int z :: st) M x := Rs_next c68_1 rfl
theorem c68_2 : qx_code 68 2 = some (2, .getfield 44, 5, 3, 3, 304) := by decide +kernel
theorem s68_2 {L : Nat} {xs : Nat → Int32} {d x : Nat} {M : qxM} {st : List Value} {ls : qxL} {t : Nat} (hk : qx_kd t = 13) : Rs L xs (d) 68 2 ls (.ref t :: st) M x = Rs L xs (d) 68 5 ls (.int (M.1 t 3) :: st) M x := Rs_when (qx_kd_obj (k := 3) (by decide) hk) c68_2 rfl
theorem c68_5 : qx_code 68 5 = some (5, .iconst 1, 6, 0, 0, 0) := by decide +kernel
theorem s68_5 {L : Nat} {xs : Nat → Int32} {d x : Nat} {M : qxM} {st : List Value} {ls : qxL} : Rs L xs (d) 68 5 ls st M x = Rs L xs (d) 68 6 ls (.int (nI 1) :: st) M x := Rs_next c68_5 rfl
theorem c68_6 : qx_code 68 6 = some (6, .iadd, 7, 0, 0, 0) := by decide +kernel
theorem s68_6 {L : Nat} {xs : Nat → Int32} {d x : Nat} {M : qxM} {st : List Value} {ls : qxL} {z y : Int32} : Rs L xs (d) 68 6 ls (.int y :: .int z :: st) M x = Rs L xs (d) 68 7 ls (.int (z + y) :: st) M x := Rs_next c68_6 rfl
theorem c68_7 : qx_code 68 7 = some (7, .putfield 44, 10, 3, 3, 304) := by decide +kernel
theorem s68_7 {L : Nat} {xs : Nat → Int32} {d x : Nat} {M : qxM} {st : List Value} {ls : qxL} {t : Nat} {z : Int32} (hk : qx_kd t = 13) : Rs L xs (d) 68 7 ls (.int z :: .ref t :: st) M x = Rs L xs (d) 68 10 ls st (qx_up M t 3 z) x := Rs_when (cnd := qx_sh t = some (.inl 3) ∧ qx_fo 3 3 = none ∧ (qx_bf 3 3 = true → z = 0 ∨ z = 1)) ⟨qx_kd_obj (k := 3) (by decide) hk, rfl, fun h => nomatch h⟩ c68_7 rfl
theorem c68_10 : qx_code 68 10 = some (10, .aload_n 0, 11, 0, 0, 0) := by decide +kernel
theorem s68_10 {L : Nat} {xs : Nat → Int32} {d x : Nat} {M : qxM} {st : List Value} {a1 a2 a3 a4 a5 a6 a7 : Option Value} {z : Nat} : Rs L xs (d) 68 10 [some (.ref z), a1, a2, a3, a4, a5, a6, a7] st M x = Rs L xs (d) 68 11 [some (.ref z), a1, a2, a3, a4, a5, a6, a7] (.ref z :: st) M x := Rs_next c68_10 rfl
theorem c68_11 : qx_code 68 11 = some (11, .aload_n 1, 12, 0, 0, 0) := by decide +kernel
theorem s68_11 {L : Nat} {xs : Nat → Int32} {d x : Nat} {M : qxM} {st : List Value} {a0 a2 a3 a4 a5 a6 a7 : Option Value} {z : Nat} : Rs L xs (d) 68 11 [a0, some (.ref z), a2, a3, a4, a5, a6, a7] st M x = Rs L xs (d) 68 12 [a0, some (.ref z), a2, a3, a4, a5, a6, a7] (.ref z :: st) M x := Rs_next c68_11 rfl
theorem c68_12 : qx_code 68 12 = some (12, .iload_n 2, 13, 0, 0, 0) := by decide +kernel
theorem s68_12 {L : Nat} {xs : Nat → Int32} {d x : Nat} {M : qxM} {st : List Value} {a0 a1 a3 a4 a5 a6 a7 : Option Value} {z : Int32} : Rs L xs (d) 68 12 [a0, a1, some (.int z), a3, a4, a5, a6, a7] st M x = Rs L xs (d) 68 13 [a0, a1, some (.int z), a3, a4, a5, a6, a7] (.int z :: st) M x := Rs_next c68_12 rfl
theorem c68_13 : qx_code 68 13 = some (13, .iload_n 3, 14, 0, 0, 0) := by decide +kernel
theorem s68_13 {L : Nat} {xs : Nat → Int32} {d x : Nat} {M : qxM} {st : List Value} {a0 a1 a2 a4 a5 a6 a7 : Option Value} {z : Int32} : Rs L xs (d) 68 13 [a0, a1, a2, some (.int z), a4, a5, a6, a7] st M x = Rs L xs (d) 68 14 [a0, a1, a2, some (.int z), a4, a5, a6, a7] (.int z :: st) M x := Rs_next c68_13 rfl
theorem c68_14 : qx_code 68 14 = some (14, .invokevirtual 151, 17, 70, 4, 1274) := by decide +kernel
theorem s68_14 {L : Nat} {xs : Nat → Int32} {d x : Nat} {M : qxM} {st : List Value} {ls : qxL} {t : Nat} {z0 : Nat} {z1 : Int32} {z2 : Int32} (hk : qx_kd t = 13) (hs : st.length ≤ 4) : Rs L xs (d + 1) 68 14 ls (.int z2 :: .int z1 :: .ref z0 :: .ref t :: st) M x = (Rs L xs d 70 0 [some (.ref t), some (.ref z0), some (.int z1), some (.int z2), none, none, none] [] M 0).bind (qx_kn L xs (d + 1) 68 14 17 70 ls st x) := by
  have h1 : qx_act L xs (qx_rt 68) (14, .invokevirtual 151, 17, 70, 4, 1274) ls (.int z2 :: .int z1 :: .ref z0 :: .ref t :: st) M = if 4 ≤ (.int z2 :: .int z1 :: .ref z0 :: .ref t :: st).length ∧ st.length ≤ 4 then some (.inr (.inr (.inr (70, [.ref t, .ref z0, .int z1, .int z2], st)))) else none := rfl
  rw [if_pos ⟨by simp [List.length_cons]; try omega, hs⟩] at h1
  have h2 := qx_kd_obj (k := 3) (by decide) hk
  exact Rs_call c68_14 h1 (by rw [show qx_args 70 [.ref t, .ref z0, .int z1, .int z2] = decide (qx_sh t = some (.inl 3)) from rfl]; exact decide_eq_true h2)
theorem c68_17 : qx_code 68 17 = some (17, .istore 4, 19, 0, 0, 0) := by decide +kernel
theorem s68_17i {L : Nat} {xs : Nat → Int32} {d x : Nat} {M : qxM} {st : List Value} {a0 a1 a2 a4 a5 a6 a7 : Option Value} {z : Int32} {y : Int32} : Rs L xs (d) 68 17 [a0, a1, a2, some (.int y), a4, a5, a6, a7] (.int z :: st) M x = Rs L xs (d) 68 19 [a0, a1, a2, some (.int y), some (.int z), a5, a6, a7] st M x := Rs_next c68_17 rfl
theorem s68_17r {L : Nat} {xs : Nat → Int32} {d x : Nat} {M : qxM} {st : List Value} {a0 a1 a2 a4 a5 a6 a7 : Option Value} {z : Int32} {y : Nat} : Rs L xs (d) 68 17 [a0, a1, a2, some (.ref y), a4, a5, a6, a7] (.int z :: st) M x = Rs L xs (d) 68 19 [a0, a1, a2, some (.ref y), some (.int z), a5, a6, a7] st M x := Rs_next c68_17 rfl
theorem s68_17n {L : Nat} {xs : Nat → Int32} {d x : Nat} {M : qxM} {st : List Value} {a0 a1 a2 a4 a5 a6 a7 : Option Value} {z : Int32} : Rs L xs (d) 68 17 [a0, a1, a2, none, a4, a5, a6, a7] (.int z :: st) M x = Rs L xs (d) 68 19 [a0, a1, a2, none, some (.int z), a5, a6, a7] st M x := Rs_next c68_17 rfl
theorem c68_19 : qx_code 68 19 = some (19, .aload_n 0, 20, 0, 0, 0) := by decide +kernel
theorem s68_19 {L : Nat} {xs : Nat → Int32} {d x : Nat} {M : qxM} {st : List Value} {a1 a2 a3 a4 a5 a6 a7 : Option Value} {z : Nat} : Rs L xs (d) 68 19 [some (.ref z), a1, a2, a3, a4, a5, a6, a7] st M x = Rs L xs (d) 68 20 [some (.ref z), a1, a2, a3, a4, a5, a6, a7] (.ref z :: st) M x := Rs_next c68_19 rfl
theorem c68_20 : qx_code 68 20 = some (20, .aload_n 1, 21, 0, 0, 0) := by decide +kernel
theorem s68_20 {L : Nat} {xs : Nat → Int32} {d x : Nat} {M : qxM} {st : List Value} {a0 a2 a3 a4 a5 a6 a7 : Option Value} {z : Nat} : Rs L xs (d) 68 20 [a0, some (.ref z), a2, a3, a4, a5, a6, a7] st M x = Rs L xs (d) 68 21 [a0, some (.ref z), a2, a3, a4, a5, a6, a7] (.ref z :: st) M x := Rs_next c68_20 rfl
theorem c68_21 : qx_code 68 21 = some (21, .iload_n 2, 22, 0, 0, 0) := by decide +kernel
theorem s68_21 {L : Nat} {xs : Nat → Int32} {d x : Nat} {M : qxM} {st : List Value} {a0 a1 a3 a4 a5 a6 a7 : Option Value} {z : Int32} : Rs L xs (d) 68 21 [a0, a1, some (.int z), a3, a4, a5, a6, a7] st M x = Rs L xs (d) 68 22 [a0, a1, some (.int z), a3, a4, a5, a6, a7] (.int z :: st) M x := Rs_next c68_21 rfl
theorem c68_22 : qx_code 68 22 = some (22, .iload_n 3, 23, 0, 0, 0) := by decide +kernel
theorem s68_22 {L : Nat} {xs : Nat → Int32} {d x : Nat} {M : qxM} {st : List Value} {a0 a1 a2 a4 a5 a6 a7 : Option Value} {z : Int32} : Rs L xs (d) 68 22 [a0, a1, a2, some (.int z), a4, a5, a6, a7] st M x = Rs L xs (d) 68 23 [a0, a1, a2, some (.int z), a4, a5, a6, a7] (.int z :: st) M x := Rs_next c68_22 rfl
theorem c68_23 : qx_code 68 23 = some (23, .iload 4, 25, 0, 0, 0) := by decide +kernel
theorem s68_23 {L : Nat} {xs : Nat → Int32} {d x : Nat} {M : qxM} {st : List Value} {a0 a1 a2 a3 a5 a6 a7 : Option Value} {z : Int32} : Rs L xs (d) 68 23 [a0, a1, a2, a3, some (.int z), a5, a6, a7] st M x = Rs L xs (d) 68 25 [a0, a1, a2, a3, some (.int z), a5, a6, a7] (.int z :: st) M x := Rs_next c68_23 rfl
theorem c68_25 : qx_code 68 25 = some (25, .invokevirtual 155, 28, 71, 5, 1283) := by decide +kernel
theorem s68_25 {L : Nat} {xs : Nat → Int32} {d x : Nat} {M : qxM} {st : List Value} {ls : qxL} {t : Nat} {z0 : Nat} {z1 : Int32} {z2 : Int32} {z3 : Int32} (hk : qx_kd t = 13) (hs : st.length ≤ 4) : Rs L xs (d + 1) 68 25 ls (.int z3 :: .int z2 :: .int z1 :: .ref z0 :: .ref t :: st) M x = (Rs L xs d 71 0 [some (.ref t), some (.ref z0), some (.int z1), some (.int z2), some (.int z3), none, none, none, none] [] M 0).bind (qx_kn L xs (d + 1) 68 25 28 71 ls st x) := by
  have h1 : qx_act L xs (qx_rt 68) (25, .invokevirtual 155, 28, 71, 5, 1283) ls (.int z3 :: .int z2 :: .int z1 :: .ref z0 :: .ref t :: st) M = if 5 ≤ (.int z3 :: .int z2 :: .int z1 :: .ref z0 :: .ref t :: st).length ∧ st.length ≤ 4 then some (.inr (.inr (.inr (71, [.ref t, .ref z0, .int z1, .int z2, .int z3], st)))) else none := rfl
  rw [if_pos ⟨by simp [List.length_cons]; try omega, hs⟩] at h1
  have h2 := qx_kd_obj (k := 3) (by decide) hk
  exact Rs_call c68_25 h1 (by rw [show qx_args 71 [.ref t, .ref z0, .int z1, .int z2, .int z3] = decide (qx_sh t = some (.inl 3)) from rfl]; exact decide_eq_true h2)
theorem c68_28 : qx_code 68 28 = some (28, .aload_n 0, 29, 0, 0, 0) := by decide +kernel
theorem s68_28 {L : Nat} {xs : Nat → Int32} {d x : Nat} {M : qxM} {st : List Value} {a1 a2 a3 a4 a5 a6 a7 : Option Value} {z : Nat} : Rs L xs (d) 68 28 [some (.ref z), a1, a2, a3, a4, a5, a6, a7] st M x = Rs L xs (d) 68 29 [some (.ref z), a1, a2, a3, a4, a5, a6, a7] (.ref z :: st) M x := Rs_next c68_28 rfl
theorem c68_29 : qx_code 68 29 = some (29, .aload_n 1, 30, 0, 0, 0) := by decide +kernel
theorem s68_29 {L : Nat} {xs : Nat → Int32} {d x : Nat} {M : qxM} {st : List Value} {a0 a2 a3 a4 a5 a6 a7 : Option Value} {z : Nat} : Rs L xs (d) 68 29 [a0, some (.ref z), a2, a3, a4, a5, a6, a7] st M x = Rs L xs (d) 68 30 [a0, some (.ref z), a2, a3, a4, a5, a6, a7] (.ref z :: st) M x := Rs_next c68_29 rfl
theorem c68_30 : qx_code 68 30 = some (30, .iload_n 3, 31, 0, 0, 0) := by decide +kernel
theorem s68_30 {L : Nat} {xs : Nat → Int32} {d x : Nat} {M : qxM} {st : List Value} {a0 a1 a2 a4 a5 a6 a7 : Option Value} {z : Int32} : Rs L xs (d) 68 30 [a0, a1, a2, some (.int z), a4, a5, a6, a7] st M x = Rs L xs (d) 68 31 [a0, a1, a2, some (.int z), a4, a5, a6, a7] (.int z :: st) M x := Rs_next c68_30 rfl
theorem c68_31 : qx_code 68 31 = some (31, .iload_n 2, 32, 0, 0, 0) := by decide +kernel
theorem s68_31 {L : Nat} {xs : Nat → Int32} {d x : Nat} {M : qxM} {st : List Value} {a0 a1 a3 a4 a5 a6 a7 : Option Value} {z : Int32} : Rs L xs (d) 68 31 [a0, a1, some (.int z), a3, a4, a5, a6, a7] st M x = Rs L xs (d) 68 32 [a0, a1, some (.int z), a3, a4, a5, a6, a7] (.int z :: st) M x := Rs_next c68_31 rfl
theorem c68_32 : qx_code 68 32 = some (32, .iload 4, 34, 0, 0, 0) := by decide +kernel
theorem s68_32 {L : Nat} {xs : Nat → Int32} {d x : Nat} {M : qxM} {st : List Value} {a0 a1 a2 a3 a5 a6 a7 : Option Value} {z : Int32} : Rs L xs (d) 68 32 [a0, a1, a2, a3, some (.int z), a5, a6, a7] st M x = Rs L xs (d) 68 34 [a0, a1, a2, a3, some (.int z), a5, a6, a7] (.int z :: st) M x := Rs_next c68_32 rfl
theorem c68_34 : qx_code 68 34 = some (34, .invokevirtual 155, 37, 71, 5, 1283) := by decide +kernel
theorem s68_34 {L : Nat} {xs : Nat → Int32} {d x : Nat} {M : qxM} {st : List Value} {ls : qxL} {t : Nat} {z0 : Nat} {z1 : Int32} {z2 : Int32} {z3 : Int32} (hk : qx_kd t = 13) (hs : st.length ≤ 4) : Rs L xs (d + 1) 68 34 ls (.int z3 :: .int z2 :: .int z1 :: .ref z0 :: .ref t :: st) M x = (Rs L xs d 71 0 [some (.ref t), some (.ref z0), some (.int z1), some (.int z2), some (.int z3), none, none, none, none] [] M 0).bind (qx_kn L xs (d + 1) 68 34 37 71 ls st x) := by
  have h1 : qx_act L xs (qx_rt 68) (34, .invokevirtual 155, 37, 71, 5, 1283) ls (.int z3 :: .int z2 :: .int z1 :: .ref z0 :: .ref t :: st) M = if 5 ≤ (.int z3 :: .int z2 :: .int z1 :: .ref z0 :: .ref t :: st).length ∧ st.length ≤ 4 then some (.inr (.inr (.inr (71, [.ref t, .ref z0, .int z1, .int z2, .int z3], st)))) else none := rfl
  rw [if_pos ⟨by simp [List.length_cons]; try omega, hs⟩] at h1
  have h2 := qx_kd_obj (k := 3) (by decide) hk
  exact Rs_call c68_34 h1 (by rw [show qx_args 71 [.ref t, .ref z0, .int z1, .int z2, .int z3] = decide (qx_sh t = some (.inl 3)) from rfl]; exact decide_eq_true h2)
theorem c68_37 : qx_code 68 37 = some (37, .ior, 38, 0, 0, 0) := by decide +kernel
theorem s68_37 {L : Nat} {xs : Nat → Int32} {d x : Nat} {M : qxM} {st : List Value} {ls : qxL} {z y : Int32} : Rs L xs (d) 68 37 ls (.int y :: .int z :: st) M x = Rs L xs (d) 68 38 ls (.int (z ||| y) :: st) M x := Rs_next c68_37 rfl
theorem c68_38 : qx_code 68 38 = some (38, .istore 5, 40, 0, 0, 0) := by decide +kernel
theorem s68_38i {L : Nat} {xs : Nat → Int32} {d x : Nat} {M : qxM} {st : List Value} {a0 a1 a2 a3 a5 a6 a7 : Option Value} {z : Int32} {y : Int32} : Rs L xs (d) 68 38 [a0, a1, a2, a3, some (.int y), a5, a6, a7] (.int z :: st) M x = Rs L xs (d) 68 40 [a0, a1, a2, a3, some (.int y), some (.int z), a6, a7] st M x := Rs_next c68_38 rfl
theorem s68_38r {L : Nat} {xs : Nat → Int32} {d x : Nat} {M : qxM} {st : List Value} {a0 a1 a2 a3 a5 a6 a7 : Option Value} {z : Int32} {y : Nat} : Rs L xs (d) 68 38 [a0, a1, a2, a3, some (.ref y), a5, a6, a7] (.int z :: st) M x = Rs L xs (d) 68 40 [a0, a1, a2, a3, some (.ref y), some (.int z), a6, a7] st M x := Rs_next c68_38 rfl
theorem s68_38n {L : Nat} {xs : Nat → Int32} {d x : Nat} {M : qxM} {st : List Value} {a0 a1 a2 a3 a5 a6 a7 : Option Value} {z : Int32} : Rs L xs (d) 68 38 [a0, a1, a2, a3, none, a5, a6, a7] (.int z :: st) M x = Rs L xs (d) 68 40 [a0, a1, a2, a3, none, some (.int z), a6, a7] st M x := Rs_next c68_38 rfl
theorem c68_40 : qx_code 68 40 = some (40, .aload_n 0, 41, 0, 0, 0) := by decide +kernel
theorem s68_40 {L : Nat} {xs : Nat → Int32} {d x : Nat} {M : qxM} {st : List Value} {a1 a2 a3 a4 a5 a6 a7 : Option Value} {z : Nat} : Rs L xs (d) 68 40 [some (.ref z), a1, a2, a3, a4, a5, a6, a7] st M x = Rs L xs (d) 68 41 [some (.ref z), a1, a2, a3, a4, a5, a6, a7] (.ref z :: st) M x := Rs_next c68_40 rfl
theorem c68_41 : qx_code 68 41 = some (41, .aload_n 1, 42, 0, 0, 0) := by decide +kernel
theorem s68_41 {L : Nat} {xs : Nat → Int32} {d x : Nat} {M : qxM} {st : List Value} {a0 a2 a3 a4 a5 a6 a7 : Option Value} {z : Nat} : Rs L xs (d) 68 41 [a0, some (.ref z), a2, a3, a4, a5, a6, a7] st M x = Rs L xs (d) 68 42 [a0, some (.ref z), a2, a3, a4, a5, a6, a7] (.ref z :: st) M x := Rs_next c68_41 rfl
theorem c68_42 : qx_code 68 42 = some (42, .iload_n 2, 43, 0, 0, 0) := by decide +kernel
theorem s68_42 {L : Nat} {xs : Nat → Int32} {d x : Nat} {M : qxM} {st : List Value} {a0 a1 a3 a4 a5 a6 a7 : Option Value} {z : Int32} : Rs L xs (d) 68 42 [a0, a1, some (.int z), a3, a4, a5, a6, a7] st M x = Rs L xs (d) 68 43 [a0, a1, some (.int z), a3, a4, a5, a6, a7] (.int z :: st) M x := Rs_next c68_42 rfl
theorem c68_43 : qx_code 68 43 = some (43, .iload 4, 45, 0, 0, 0) := by decide +kernel
theorem s68_43 {L : Nat} {xs : Nat → Int32} {d x : Nat} {M : qxM} {st : List Value} {a0 a1 a2 a3 a5 a6 a7 : Option Value} {z : Int32} : Rs L xs (d) 68 43 [a0, a1, a2, a3, some (.int z), a5, a6, a7] st M x = Rs L xs (d) 68 45 [a0, a1, a2, a3, some (.int z), a5, a6, a7] (.int z :: st) M x := Rs_next c68_43 rfl
theorem c68_45 : qx_code 68 45 = some (45, .invokevirtual 159, 48, 72, 4, 1287) := by decide +kernel
theorem s68_45 {L : Nat} {xs : Nat → Int32} {d x : Nat} {M : qxM} {st : List Value} {ls : qxL} {t : Nat} {z0 : Nat} {z1 : Int32} {z2 : Int32} (hk : qx_kd t = 13) (hs : st.length ≤ 4) : Rs L xs (d + 1) 68 45 ls (.int z2 :: .int z1 :: .ref z0 :: .ref t :: st) M x = (Rs L xs d 72 0 [some (.ref t), some (.ref z0), some (.int z1), some (.int z2), none, none, none] [] M 0).bind (qx_kn L xs (d + 1) 68 45 48 72 ls st x) := by
  have h1 : qx_act L xs (qx_rt 68) (45, .invokevirtual 159, 48, 72, 4, 1287) ls (.int z2 :: .int z1 :: .ref z0 :: .ref t :: st) M = if 4 ≤ (.int z2 :: .int z1 :: .ref z0 :: .ref t :: st).length ∧ st.length ≤ 4 then some (.inr (.inr (.inr (72, [.ref t, .ref z0, .int z1, .int z2], st)))) else none := rfl
  rw [if_pos ⟨by simp [List.length_cons]; try omega, hs⟩] at h1
  have h2 := qx_kd_obj (k := 3) (by decide) hk
  exact Rs_call c68_45 h1 (by rw [show qx_args 72 [.ref t, .ref z0, .int z1, .int z2] = decide (qx_sh t = some (.inl 3)) from rfl]; exact decide_eq_true h2)
theorem c68_48 : qx_code 68 48 = some (48, .aload_n 0, 49, 0, 0, 0) := by decide +kernel
theorem s68_48 {L : Nat} {xs : Nat → Int32} {d x : Nat} {M : qxM} {st : List Value} {a1 a2 a3 a4 a5 a6 a7 : Option Value} {z : Nat} : Rs L xs (d) 68 48 [some (.ref z), a1, a2, a3, a4, a5, a6, a7] st M x = Rs L xs (d) 68 49 [some (.ref z), a1, a2, a3, a4, a5, a6, a7] (.ref z :: st) M x := Rs_next c68_48 rfl
theorem c68_49 : qx_code 68 49 = some (49, .aload_n 1, 50, 0, 0, 0) := by decide +kernel
theorem s68_49 {L : Nat} {xs : Nat → Int32} {d x : Nat} {M : qxM} {st : List Value} {a0 a2 a3 a4 a5 a6 a7 : Option Value} {z : Nat} : Rs L xs (d) 68 49 [a0, some (.ref z), a2, a3, a4, a5, a6, a7] st M x = Rs L xs (d) 68 50 [a0, some (.ref z), a2, a3, a4, a5, a6, a7] (.ref z :: st) M x := Rs_next c68_49 rfl
theorem c68_50 : qx_code 68 50 = some (50, .iload_n 3, 51, 0, 0, 0) := by decide +kernel
theorem s68_50 {L : Nat} {xs : Nat → Int32} {d x : Nat} {M : qxM} {st : List Value} {a0 a1 a2 a4 a5 a6 a7 : Option Value} {z : Int32} : Rs L xs (d) 68 50 [a0, a1, a2, some (.int z), a4, a5, a6, a7] st M x = Rs L xs (d) 68 51 [a0, a1, a2, some (.int z), a4, a5, a6, a7] (.int z :: st) M x := Rs_next c68_50 rfl
theorem c68_51 : qx_code 68 51 = some (51, .iload 4, 53, 0, 0, 0) := by decide +kernel
theorem s68_51 {L : Nat} {xs : Nat → Int32} {d x : Nat} {M : qxM} {st : List Value} {a0 a1 a2 a3 a5 a6 a7 : Option Value} {z : Int32} : Rs L xs (d) 68 51 [a0, a1, a2, a3, some (.int z), a5, a6, a7] st M x = Rs L xs (d) 68 53 [a0, a1, a2, a3, some (.int z), a5, a6, a7] (.int z :: st) M x := Rs_next c68_51 rfl
theorem c68_53 : qx_code 68 53 = some (53, .invokevirtual 159, 56, 72, 4, 1287) := by decide +kernel
theorem s68_53 {L : Nat} {xs : Nat → Int32} {d x : Nat} {M : qxM} {st : List Value} {ls : qxL} {t : Nat} {z0 : Nat} {z1 : Int32} {z2 : Int32} (hk : qx_kd t = 13) (hs : st.length ≤ 4) : Rs L xs (d + 1) 68 53 ls (.int z2 :: .int z1 :: .ref z0 :: .ref t :: st) M x = (Rs L xs d 72 0 [some (.ref t), some (.ref z0), some (.int z1), some (.int z2), none, none, none] [] M 0).bind (qx_kn L xs (d + 1) 68 53 56 72 ls st x) := by
  have h1 : qx_act L xs (qx_rt 68) (53, .invokevirtual 159, 56, 72, 4, 1287) ls (.int z2 :: .int z1 :: .ref z0 :: .ref t :: st) M = if 4 ≤ (.int z2 :: .int z1 :: .ref z0 :: .ref t :: st).length ∧ st.length ≤ 4 then some (.inr (.inr (.inr (72, [.ref t, .ref z0, .int z1, .int z2], st)))) else none := rfl
  rw [if_pos ⟨by simp [List.length_cons]; try omega, hs⟩] at h1
  have h2 := qx_kd_obj (k := 3) (by decide) hk
  exact Rs_call c68_53 h1 (by rw [show qx_args 72 [.ref t, .ref z0, .int z1, .int z2] = decide (qx_sh t = some (.inl 3)) from rfl]; exact decide_eq_true h2)
theorem c68_56 : qx_code 68 56 = some (56, .ior, 57, 0, 0, 0) := by decide +kernel
theorem s68_56 {L : Nat} {xs : Nat → Int32} {d x : Nat} {M : qxM} {st : List Value} {ls : qxL} {z y : Int32} : Rs L xs (d) 68 56 ls (.int y :: .int z :: st) M x = Rs L xs (d) 68 57 ls (.int (z ||| y) :: st) M x := Rs_next c68_56 rfl
theorem c68_57 : qx_code 68 57 = some (57, .iload 5, 59, 0, 0, 0) := by decide +kernel
theorem s68_57 {L : Nat} {xs : Nat → Int32} {d x : Nat} {M : qxM} {st : List Value} {a0 a1 a2 a3 a4 a6 a7 : Option Value} {z : Int32} : Rs L xs (d) 68 57 [a0, a1, a2, a3, a4, some (.int z), a6, a7] st M x = Rs L xs (d) 68 59 [a0, a1, a2, a3, a4, some (.int z), a6, a7] (.int z :: st) M x := Rs_next c68_57 rfl
theorem c68_59 : qx_code 68 59 = some (59, .ior, 60, 0, 0, 0) := by decide +kernel
theorem s68_59 {L : Nat} {xs : Nat → Int32} {d x : Nat} {M : qxM} {st : List Value} {ls : qxL} {z y : Int32} : Rs L xs (d) 68 59 ls (.int y :: .int z :: st) M x = Rs L xs (d) 68 60 ls (.int (z ||| y) :: st) M x := Rs_next c68_59 rfl
theorem c68_60 : qx_code 68 60 = some (60, .istore 6, 62, 0, 0, 0) := by decide +kernel
theorem s68_60i {L : Nat} {xs : Nat → Int32} {d x : Nat} {M : qxM} {st : List Value} {a0 a1 a2 a3 a4 a6 a7 : Option Value} {z : Int32} {y : Int32} : Rs L xs (d) 68 60 [a0, a1, a2, a3, a4, some (.int y), a6, a7] (.int z :: st) M x = Rs L xs (d) 68 62 [a0, a1, a2, a3, a4, some (.int y), some (.int z), a7] st M x := Rs_next c68_60 rfl
theorem s68_60r {L : Nat} {xs : Nat → Int32} {d x : Nat} {M : qxM} {st : List Value} {a0 a1 a2 a3 a4 a6 a7 : Option Value} {z : Int32} {y : Nat} : Rs L xs (d) 68 60 [a0, a1, a2, a3, a4, some (.ref y), a6, a7] (.int z :: st) M x = Rs L xs (d) 68 62 [a0, a1, a2, a3, a4, some (.ref y), some (.int z), a7] st M x := Rs_next c68_60 rfl
theorem s68_60n {L : Nat} {xs : Nat → Int32} {d x : Nat} {M : qxM} {st : List Value} {a0 a1 a2 a3 a4 a6 a7 : Option Value} {z : Int32} : Rs L xs (d) 68 60 [a0, a1, a2, a3, a4, none, a6, a7] (.int z :: st) M x = Rs L xs (d) 68 62 [a0, a1, a2, a3, a4, none, some (.int z), a7] st M x := Rs_next c68_60 rfl
theorem c68_62 : qx_code 68 62 = some (62, .iconst 0, 63, 0, 0, 0) := by decide +kernel
theorem s68_62 {L : Nat} {xs : Nat → Int32} {d x : Nat} {M : qxM} {st : List Value} {ls : qxL} : Rs L xs (d) 68 62 ls st M x = Rs L xs (d) 68 63 ls (.int (nI 0) :: st) M x := Rs_next c68_62 rfl
theorem c68_63 : qx_code 68 63 = some (63, .istore 7, 65, 0, 0, 0) := by decide +kernel
theorem s68_63i {L : Nat} {xs : Nat → Int32} {d x : Nat} {M : qxM} {st : List Value} {a0 a1 a2 a3 a4 a5 a7 : Option Value} {z : Int32} {y : Int32} : Rs L xs (d) 68 63 [a0, a1, a2, a3, a4, a5, some (.int y), a7] (.int z :: st) M x = Rs L xs (d) 68 65 [a0, a1, a2, a3, a4, a5, some (.int y), some (.int z)] st M x := Rs_next c68_63 rfl
theorem s68_63r {L : Nat} {xs : Nat → Int32} {d x : Nat} {M : qxM} {st : List Value} {a0 a1 a2 a3 a4 a5 a7 : Option Value} {z : Int32} {y : Nat} : Rs L xs (d) 68 63 [a0, a1, a2, a3, a4, a5, some (.ref y), a7] (.int z :: st) M x = Rs L xs (d) 68 65 [a0, a1, a2, a3, a4, a5, some (.ref y), some (.int z)] st M x := Rs_next c68_63 rfl
theorem s68_63n {L : Nat} {xs : Nat → Int32} {d x : Nat} {M : qxM} {st : List Value} {a0 a1 a2 a3 a4 a5 a7 : Option Value} {z : Int32} : Rs L xs (d) 68 63 [a0, a1, a2, a3, a4, a5, none, a7] (.int z :: st) M x = Rs L xs (d) 68 65 [a0, a1, a2, a3, a4, a5, none, some (.int z)] st M x := Rs_next c68_63 rfl
theorem c68_65 : qx_code 68 65 = some (65, .iload 7, 67, 0, 0, 0) := by decide +kernel
theorem s68_65 {L : Nat} {xs : Nat → Int32} {d x : Nat} {M : qxM} {st : List Value} {a0 a1 a2 a3 a4 a5 a6 : Option Value} {z : Int32} : Rs L xs (d) 68 65 [a0, a1, a2, a3, a4, a5, a6, some (.int z)] st M x = Rs L xs (d) 68 67 [a0, a1, a2, a3, a4, a5, a6, some (.int z)] (.int z :: st) M x := Rs_next c68_65 rfl
theorem c68_67 : qx_code 68 67 = some (67, .bipush 14, 69, 0, 0, 0) := by decide +kernel
theorem s68_67 {L : Nat} {xs : Nat → Int32} {d x : Nat} {M : qxM} {st : List Value} {ls : qxL} : Rs L xs (d) 68 67 ls st M x = Rs L xs (d) 68 69 ls (.int (nI 14) :: st) M x := Rs_next c68_67 rfl
theorem c68_69 : qx_code 68 69 = some (69, .if_icmp .ge 82, 72, 151, 0, 0) := by decide +kernel
theorem s68_69 {L : Nat} {xs : Nat → Int32} {d x : Nat} {M : qxM} {st : List Value} {ls : qxL} {z y : Int32} : Rs L xs (d) 68 69 ls (.int y :: .int z :: st) M x = if y ≤ z then Rs L xs (d) 68 151 ls st M x else Rs L xs (d) 68 72 ls st M x := Rs_ite c68_69 rfl
theorem c68_72 : qx_code 68 72 = some (72, .iload 6, 74, 0, 0, 0) := by decide +kernel
theorem s68_72 {L : Nat} {xs : Nat → Int32} {d x : Nat} {M : qxM} {st : List Value} {a0 a1 a2 a3 a4 a5 a7 : Option Value} {z : Int32} : Rs L xs (d) 68 72 [a0, a1, a2, a3, a4, a5, some (.int z), a7] st M x = Rs L xs (d) 68 74 [a0, a1, a2, a3, a4, a5, some (.int z), a7] (.int z :: st) M x := Rs_next c68_72 rfl
theorem c68_74 : qx_code 68 74 = some (74, .iload 7, 76, 0, 0, 0) := by decide +kernel
theorem s68_74 {L : Nat} {xs : Nat → Int32} {d x : Nat} {M : qxM} {st : List Value} {a0 a1 a2 a3 a4 a5 a6 : Option Value} {z : Int32} : Rs L xs (d) 68 74 [a0, a1, a2, a3, a4, a5, a6, some (.int z)] st M x = Rs L xs (d) 68 76 [a0, a1, a2, a3, a4, a5, a6, some (.int z)] (.int z :: st) M x := Rs_next c68_74 rfl
theorem c68_76 : qx_code 68 76 = some (76, .invokestatic 89, 79, 170, 2, 876) := by decide +kernel
theorem s68_76 {L : Nat} {xs : Nat → Int32} {d x : Nat} {M : qxM} {st : List Value} {ls : qxL} {z0 : Int32} {z1 : Int32} (hs : st.length ≤ 4) : Rs L xs (d + 1) 68 76 ls (.int z1 :: .int z0 :: st) M x = (Rs L xs d 170 0 [some (.int z0), some (.int z1)] [] M 0).bind (qx_kn L xs (d + 1) 68 76 79 170 ls st x) := by
  have h1 : qx_act L xs (qx_rt 68) (76, .invokestatic 89, 79, 170, 2, 876) ls (.int z1 :: .int z0 :: st) M = if 2 ≤ (.int z1 :: .int z0 :: st).length ∧ st.length ≤ 4 then some (.inr (.inr (.inr (170, [.int z0, .int z1], st)))) else none := rfl
  rw [if_pos ⟨by simp [List.length_cons]; try omega, hs⟩] at h1
  exact Rs_call c68_76 h1 rfl
theorem c68_79 : qx_code 68 79 = some (79, .ifCond .eq 14, 82, 93, 0, 0) := by decide +kernel
theorem s68_79 {L : Nat} {xs : Nat → Int32} {d x : Nat} {M : qxM} {st : List Value} {ls : qxL} {z : Int32} : Rs L xs (d) 68 79 ls (.int z :: st) M x = if z = 0 then Rs L xs (d) 68 93 ls st M x else Rs L xs (d) 68 82 ls st M x := Rs_ite c68_79 rfl
theorem c68_82 : qx_code 68 82 = some (82, .aload_n 0, 83, 0, 0, 0) := by decide +kernel
theorem s68_82 {L : Nat} {xs : Nat → Int32} {d x : Nat} {M : qxM} {st : List Value} {a1 a2 a3 a4 a5 a6 a7 : Option Value} {z : Nat} : Rs L xs (d) 68 82 [some (.ref z), a1, a2, a3, a4, a5, a6, a7] st M x = Rs L xs (d) 68 83 [some (.ref z), a1, a2, a3, a4, a5, a6, a7] (.ref z :: st) M x := Rs_next c68_82 rfl
theorem c68_83 : qx_code 68 83 = some (83, .getfield 15, 86, 3, 10, 315) := by decide +kernel
theorem s68_83 {L : Nat} {xs : Nat → Int32} {d x : Nat} {M : qxM} {st : List Value} {ls : qxL} {t : Nat} (hk : qx_kd t = 13) : Rs L xs (d) 68 83 ls (.ref t :: st) M x = Rs L xs (d) 68 86 ls (.ref (t + 2) :: st) M x := Rs_when (qx_kd_obj (k := 3) (by decide) hk) c68_83 rfl
theorem c68_86 : qx_code 68 86 = some (86, .iload 7, 88, 0, 0, 0) := by decide +kernel
theorem s68_86 {L : Nat} {xs : Nat → Int32} {d x : Nat} {M : qxM} {st : List Value} {a0 a1 a2 a3 a4 a5 a6 : Option Value} {z : Int32} : Rs L xs (d) 68 86 [a0, a1, a2, a3, a4, a5, a6, some (.int z)] st M x = Rs L xs (d) 68 88 [a0, a1, a2, a3, a4, a5, a6, some (.int z)] (.int z :: st) M x := Rs_next c68_86 rfl
theorem c68_88 : qx_code 68 88 = some (88, .iload 4, 90, 0, 0, 0) := by decide +kernel
theorem s68_88 {L : Nat} {xs : Nat → Int32} {d x : Nat} {M : qxM} {st : List Value} {a0 a1 a2 a3 a5 a6 a7 : Option Value} {z : Int32} : Rs L xs (d) 68 88 [a0, a1, a2, a3, some (.int z), a5, a6, a7] st M x = Rs L xs (d) 68 90 [a0, a1, a2, a3, some (.int z), a5, a6, a7] (.int z :: st) M x := Rs_next c68_88 rfl
theorem c68_90 : qx_code 68 90 = some (90, .invokestatic 62, 93, 174, 3, 1241) := by decide +kernel
theorem s68_90 {L : Nat} {xs : Nat → Int32} {d x : Nat} {M : qxM} {st : List Value} {ls : qxL} {z0 : Nat} {z1 : Int32} {z2 : Int32} (hs : st.length ≤ 4) : Rs L xs (d + 1) 68 90 ls (.int z2 :: .int z1 :: .ref z0 :: st) M x = (Rs L xs d 174 0 [some (.ref z0), some (.int z1), some (.int z2)] [] M 0).bind (qx_kn L xs (d + 1) 68 90 93 174 ls st x) := by
  have h1 : qx_act L xs (qx_rt 68) (90, .invokestatic 62, 93, 174, 3, 1241) ls (.int z2 :: .int z1 :: .ref z0 :: st) M = if 3 ≤ (.int z2 :: .int z1 :: .ref z0 :: st).length ∧ st.length ≤ 4 then some (.inr (.inr (.inr (174, [.ref z0, .int z1, .int z2], st)))) else none := rfl
  rw [if_pos ⟨by simp [List.length_cons]; try omega, hs⟩] at h1
  exact Rs_call c68_90 h1 rfl
theorem c68_93 : qx_code 68 93 = some (93, .iload 5, 95, 0, 0, 0) := by decide +kernel
theorem s68_93 {L : Nat} {xs : Nat → Int32} {d x : Nat} {M : qxM} {st : List Value} {a0 a1 a2 a3 a4 a6 a7 : Option Value} {z : Int32} : Rs L xs (d) 68 93 [a0, a1, a2, a3, a4, some (.int z), a6, a7] st M x = Rs L xs (d) 68 95 [a0, a1, a2, a3, a4, some (.int z), a6, a7] (.int z :: st) M x := Rs_next c68_93 rfl
theorem c68_95 : qx_code 68 95 = some (95, .iload 7, 97, 0, 0, 0) := by decide +kernel
theorem s68_95 {L : Nat} {xs : Nat → Int32} {d x : Nat} {M : qxM} {st : List Value} {a0 a1 a2 a3 a4 a5 a6 : Option Value} {z : Int32} : Rs L xs (d) 68 95 [a0, a1, a2, a3, a4, a5, a6, some (.int z)] st M x = Rs L xs (d) 68 97 [a0, a1, a2, a3, a4, a5, a6, some (.int z)] (.int z :: st) M x := Rs_next c68_95 rfl
theorem c68_97 : qx_code 68 97 = some (97, .invokestatic 89, 100, 170, 2, 876) := by decide +kernel
theorem s68_97 {L : Nat} {xs : Nat → Int32} {d x : Nat} {M : qxM} {st : List Value} {ls : qxL} {z0 : Int32} {z1 : Int32} (hs : st.length ≤ 4) : Rs L xs (d + 1) 68 97 ls (.int z1 :: .int z0 :: st) M x = (Rs L xs d 170 0 [some (.int z0), some (.int z1)] [] M 0).bind (qx_kn L xs (d + 1) 68 97 100 170 ls st x) := by
  have h1 : qx_act L xs (qx_rt 68) (97, .invokestatic 89, 100, 170, 2, 876) ls (.int z1 :: .int z0 :: st) M = if 2 ≤ (.int z1 :: .int z0 :: st).length ∧ st.length ≤ 4 then some (.inr (.inr (.inr (170, [.int z0, .int z1], st)))) else none := rfl
  rw [if_pos ⟨by simp [List.length_cons]; try omega, hs⟩] at h1
  exact Rs_call c68_97 h1 rfl
theorem c68_100 : qx_code 68 100 = some (100, .ifCond .eq 45, 103, 145, 0, 0) := by decide +kernel
theorem s68_100 {L : Nat} {xs : Nat → Int32} {d x : Nat} {M : qxM} {st : List Value} {ls : qxL} {z : Int32} : Rs L xs (d) 68 100 ls (.int z :: st) M x = if z = 0 then Rs L xs (d) 68 145 ls st M x else Rs L xs (d) 68 103 ls st M x := Rs_ite c68_100 rfl
theorem c68_103 : qx_code 68 103 = some (103, .aload_n 0, 104, 0, 0, 0) := by decide +kernel
theorem s68_103 {L : Nat} {xs : Nat → Int32} {d x : Nat} {M : qxM} {st : List Value} {a1 a2 a3 a4 a5 a6 a7 : Option Value} {z : Nat} : Rs L xs (d) 68 103 [some (.ref z), a1, a2, a3, a4, a5, a6, a7] st M x = Rs L xs (d) 68 104 [some (.ref z), a1, a2, a3, a4, a5, a6, a7] (.ref z :: st) M x := Rs_next c68_103 rfl
theorem c68_104 : qx_code 68 104 = some (104, .iload 7, 106, 0, 0, 0) := by decide +kernel
theorem s68_104 {L : Nat} {xs : Nat → Int32} {d x : Nat} {M : qxM} {st : List Value} {a0 a1 a2 a3 a4 a5 a6 : Option Value} {z : Int32} : Rs L xs (d) 68 104 [a0, a1, a2, a3, a4, a5, a6, some (.int z)] st M x = Rs L xs (d) 68 106 [a0, a1, a2, a3, a4, a5, a6, some (.int z)] (.int z :: st) M x := Rs_next c68_104 rfl
theorem c68_106 : qx_code 68 106 = some (106, .invokevirtual 73, 109, 66, 2, 1248) := by decide +kernel
theorem s68_106 {L : Nat} {xs : Nat → Int32} {d x : Nat} {M : qxM} {st : List Value} {ls : qxL} {t : Nat} {z0 : Int32} (hk : qx_kd t = 13) (hs : st.length ≤ 4) : Rs L xs (d + 1) 68 106 ls (.int z0 :: .ref t :: st) M x = (Rs L xs d 66 0 [some (.ref t), some (.int z0)] [] M 0).bind (qx_kn L xs (d + 1) 68 106 109 66 ls st x) := by
  have h1 : qx_act L xs (qx_rt 68) (106, .invokevirtual 73, 109, 66, 2, 1248) ls (.int z0 :: .ref t :: st) M = if 2 ≤ (.int z0 :: .ref t :: st).length ∧ st.length ≤ 4 then some (.inr (.inr (.inr (66, [.ref t, .int z0], st)))) else none := rfl
  rw [if_pos ⟨by simp [List.length_cons]; try omega, hs⟩] at h1
  have h2 := qx_kd_obj (k := 3) (by decide) hk
  exact Rs_call c68_106 h1 (by rw [show qx_args 66 [.ref t, .int z0] = decide (qx_sh t = some (.inl 3)) from rfl]; exact decide_eq_true h2)
theorem c68_109 : qx_code 68 109 = some (109, .aload_n 0, 110, 0, 0, 0) := by decide +kernel
theorem s68_109 {L : Nat} {xs : Nat → Int32} {d x : Nat} {M : qxM} {st : List Value} {a1 a2 a3 a4 a5 a6 a7 : Option Value} {z : Nat} : Rs L xs (d) 68 109 [some (.ref z), a1, a2, a3, a4, a5, a6, a7] st M x = Rs L xs (d) 68 110 [some (.ref z), a1, a2, a3, a4, a5, a6, a7] (.ref z :: st) M x := Rs_next c68_109 rfl
theorem c68_110 : qx_code 68 110 = some (110, .getfield 30, 113, 3, 14, 322) := by decide +kernel
theorem s68_110 {L : Nat} {xs : Nat → Int32} {d x : Nat} {M : qxM} {st : List Value} {ls : qxL} {t : Nat} (hk : qx_kd t = 13) : Rs L xs (d) 68 110 ls (.ref t :: st) M x = Rs L xs (d) 68 113 ls (.ref (t + 6) :: st) M x := Rs_when (qx_kd_obj (k := 3) (by decide) hk) c68_110 rfl
theorem c68_113 : qx_code 68 113 = some (113, .iload 7, 115, 0, 0, 0) := by decide +kernel
theorem s68_113 {L : Nat} {xs : Nat → Int32} {d x : Nat} {M : qxM} {st : List Value} {a0 a1 a2 a3 a4 a5 a6 : Option Value} {z : Int32} : Rs L xs (d) 68 113 [a0, a1, a2, a3, a4, a5, a6, some (.int z)] st M x = Rs L xs (d) 68 115 [a0, a1, a2, a3, a4, a5, a6, some (.int z)] (.int z :: st) M x := Rs_next c68_113 rfl
theorem c68_115 : qx_code 68 115 = some (115, .aload_n 0, 116, 0, 0, 0) := by decide +kernel
theorem s68_115 {L : Nat} {xs : Nat → Int32} {d x : Nat} {M : qxM} {st : List Value} {a1 a2 a3 a4 a5 a6 a7 : Option Value} {z : Nat} : Rs L xs (d) 68 115 [some (.ref z), a1, a2, a3, a4, a5, a6, a7] st M x = Rs L xs (d) 68 116 [some (.ref z), a1, a2, a3, a4, a5, a6, a7] (.ref z :: st) M x := Rs_next c68_115 rfl
theorem c68_116 : qx_code 68 116 = some (116, .getfield 21, 119, 3, 12, 318) := by decide +kernel
theorem s68_116 {L : Nat} {xs : Nat → Int32} {d x : Nat} {M : qxM} {st : List Value} {ls : qxL} {t : Nat} (hk : qx_kd t = 13) : Rs L xs (d) 68 116 ls (.ref t :: st) M x = Rs L xs (d) 68 119 ls (.ref (t + 4) :: st) M x := Rs_when (qx_kd_obj (k := 3) (by decide) hk) c68_116 rfl
theorem c68_119 : qx_code 68 119 = some (119, .iload 7, 121, 0, 0, 0) := by decide +kernel
theorem s68_119 {L : Nat} {xs : Nat → Int32} {d x : Nat} {M : qxM} {st : List Value} {a0 a1 a2 a3 a4 a5 a6 : Option Value} {z : Int32} : Rs L xs (d) 68 119 [a0, a1, a2, a3, a4, a5, a6, some (.int z)] st M x = Rs L xs (d) 68 121 [a0, a1, a2, a3, a4, a5, a6, some (.int z)] (.int z :: st) M x := Rs_next c68_119 rfl
theorem c68_121 : qx_code 68 121 = some (121, .invokestatic 104, 124, 173, 2, 920) := by decide +kernel
theorem s68_121 {L : Nat} {xs : Nat → Int32} {d x : Nat} {M : qxM} {st : List Value} {ls : qxL} {z0 : Nat} {z1 : Int32} (hs : st.length ≤ 4) : Rs L xs (d + 1) 68 121 ls (.int z1 :: .ref z0 :: st) M x = (Rs L xs d 173 0 [some (.ref z0), some (.int z1)] [] M 0).bind (qx_kn L xs (d + 1) 68 121 124 173 ls st x) := by
  have h1 : qx_act L xs (qx_rt 68) (121, .invokestatic 104, 124, 173, 2, 920) ls (.int z1 :: .ref z0 :: st) M = if 2 ≤ (.int z1 :: .ref z0 :: st).length ∧ st.length ≤ 4 then some (.inr (.inr (.inr (173, [.ref z0, .int z1], st)))) else none := rfl
  rw [if_pos ⟨by simp [List.length_cons]; try omega, hs⟩] at h1
  exact Rs_call c68_121 h1 rfl
theorem c68_124 : qx_code 68 124 = some (124, .invokevirtual 162, 127, 91, 3, 1292) := by decide +kernel
theorem s68_124 {L : Nat} {xs : Nat → Int32} {d x : Nat} {M : qxM} {st : List Value} {ls : qxL} {t : Nat} {z0 : Int32} {z1 : Int32} (hk : qx_kd t = 16) (hs : st.length ≤ 4) : Rs L xs (d + 1) 68 124 ls (.int z1 :: .int z0 :: .ref t :: st) M x = (Rs L xs d 91 0 [some (.ref t), some (.int z0), some (.int z1), none, none] [] M 0).bind (qx_kn L xs (d + 1) 68 124 127 91 ls st x) := by
  have h1 : qx_act L xs (qx_rt 68) (124, .invokevirtual 162, 127, 91, 3, 1292) ls (.int z1 :: .int z0 :: .ref t :: st) M = if 3 ≤ (.int z1 :: .int z0 :: .ref t :: st).length ∧ st.length ≤ 4 then some (.inr (.inr (.inr (91, [.ref t, .int z0, .int z1], st)))) else none := rfl
  rw [if_pos ⟨by simp [List.length_cons]; try omega, hs⟩] at h1
  have h2 := qx_kd_obj (k := 6) (by decide) hk
  exact Rs_call c68_124 h1 (by rw [show qx_args 91 [.ref t, .int z0, .int z1] = decide (qx_sh t = some (.inl 6)) from rfl]; exact decide_eq_true h2)
theorem c68_127 : qx_code 68 127 = some (127, .aload_n 0, 128, 0, 0, 0) := by decide +kernel
theorem s68_127 {L : Nat} {xs : Nat → Int32} {d x : Nat} {M : qxM} {st : List Value} {a1 a2 a3 a4 a5 a6 a7 : Option Value} {z : Nat} : Rs L xs (d) 68 127 [some (.ref z), a1, a2, a3, a4, a5, a6, a7] st M x = Rs L xs (d) 68 128 [some (.ref z), a1, a2, a3, a4, a5, a6, a7] (.ref z :: st) M x := Rs_next c68_127 rfl
theorem c68_128 : qx_code 68 128 = some (128, .getfield 30, 131, 3, 14, 322) := by decide +kernel
theorem s68_128 {L : Nat} {xs : Nat → Int32} {d x : Nat} {M : qxM} {st : List Value} {ls : qxL} {t : Nat} (hk : qx_kd t = 13) : Rs L xs (d) 68 128 ls (.ref t :: st) M x = Rs L xs (d) 68 131 ls (.ref (t + 6) :: st) M x := Rs_when (qx_kd_obj (k := 3) (by decide) hk) c68_128 rfl
theorem c68_131 : qx_code 68 131 = some (131, .iload 7, 133, 0, 0, 0) := by decide +kernel
theorem s68_131 {L : Nat} {xs : Nat → Int32} {d x : Nat} {M : qxM} {st : List Value} {a0 a1 a2 a3 a4 a5 a6 : Option Value} {z : Int32} : Rs L xs (d) 68 131 [a0, a1, a2, a3, a4, a5, a6, some (.int z)] st M x = Rs L xs (d) 68 133 [a0, a1, a2, a3, a4, a5, a6, some (.int z)] (.int z :: st) M x := Rs_next c68_131 rfl
theorem c68_133 : qx_code 68 133 = some (133, .aload_n 0, 134, 0, 0, 0) := by decide +kernel
theorem s68_133 {L : Nat} {xs : Nat → Int32} {d x : Nat} {M : qxM} {st : List Value} {a1 a2 a3 a4 a5 a6 a7 : Option Value} {z : Nat} : Rs L xs (d) 68 133 [some (.ref z), a1, a2, a3, a4, a5, a6, a7] st M x = Rs L xs (d) 68 134 [some (.ref z), a1, a2, a3, a4, a5, a6, a7] (.ref z :: st) M x := Rs_next c68_133 rfl
theorem c68_134 : qx_code 68 134 = some (134, .getfield 24, 137, 3, 13, 320) := by decide +kernel
theorem s68_134 {L : Nat} {xs : Nat → Int32} {d x : Nat} {M : qxM} {st : List Value} {ls : qxL} {t : Nat} (hk : qx_kd t = 13) : Rs L xs (d) 68 134 ls (.ref t :: st) M x = Rs L xs (d) 68 137 ls (.ref (t + 5) :: st) M x := Rs_when (qx_kd_obj (k := 3) (by decide) hk) c68_134 rfl
theorem c68_137 : qx_code 68 137 = some (137, .iload 7, 139, 0, 0, 0) := by decide +kernel
theorem s68_137 {L : Nat} {xs : Nat → Int32} {d x : Nat} {M : qxM} {st : List Value} {a0 a1 a2 a3 a4 a5 a6 : Option Value} {z : Int32} : Rs L xs (d) 68 137 [a0, a1, a2, a3, a4, a5, a6, some (.int z)] st M x = Rs L xs (d) 68 139 [a0, a1, a2, a3, a4, a5, a6, some (.int z)] (.int z :: st) M x := Rs_next c68_137 rfl
theorem c68_139 : qx_code 68 139 = some (139, .invokestatic 104, 142, 173, 2, 920) := by decide +kernel
theorem s68_139 {L : Nat} {xs : Nat → Int32} {d x : Nat} {M : qxM} {st : List Value} {ls : qxL} {z0 : Nat} {z1 : Int32} (hs : st.length ≤ 4) : Rs L xs (d + 1) 68 139 ls (.int z1 :: .ref z0 :: st) M x = (Rs L xs d 173 0 [some (.ref z0), some (.int z1)] [] M 0).bind (qx_kn L xs (d + 1) 68 139 142 173 ls st x) := by
  have h1 : qx_act L xs (qx_rt 68) (139, .invokestatic 104, 142, 173, 2, 920) ls (.int z1 :: .ref z0 :: st) M = if 2 ≤ (.int z1 :: .ref z0 :: st).length ∧ st.length ≤ 4 then some (.inr (.inr (.inr (173, [.ref z0, .int z1], st)))) else none := rfl
  rw [if_pos ⟨by simp [List.length_cons]; try omega, hs⟩] at h1
  exact Rs_call c68_139 h1 rfl
theorem c68_142 : qx_code 68 142 = some (142, .invokevirtual 148, 145, 90, 3, 1298) := by decide +kernel
theorem s68_142 {L : Nat} {xs : Nat → Int32} {d x : Nat} {M : qxM} {st : List Value} {ls : qxL} {t : Nat} {z0 : Int32} {z1 : Int32} (hk : qx_kd t = 16) (hs : st.length ≤ 4) : Rs L xs (d + 1) 68 142 ls (.int z1 :: .int z0 :: .ref t :: st) M x = (Rs L xs d 90 0 [some (.ref t), some (.int z0), some (.int z1), none, none] [] M 0).bind (qx_kn L xs (d + 1) 68 142 145 90 ls st x) := by
  have h1 : qx_act L xs (qx_rt 68) (142, .invokevirtual 148, 145, 90, 3, 1298) ls (.int z1 :: .int z0 :: .ref t :: st) M = if 3 ≤ (.int z1 :: .int z0 :: .ref t :: st).length ∧ st.length ≤ 4 then some (.inr (.inr (.inr (90, [.ref t, .int z0, .int z1], st)))) else none := rfl
  rw [if_pos ⟨by simp [List.length_cons]; try omega, hs⟩] at h1
  have h2 := qx_kd_obj (k := 6) (by decide) hk
  exact Rs_call c68_142 h1 (by rw [show qx_args 90 [.ref t, .int z0, .int z1] = decide (qx_sh t = some (.inl 6)) from rfl]; exact decide_eq_true h2)
theorem c68_145 : qx_code 68 145 = some (145, .iinc 7 1, 148, 0, 0, 0) := by decide +kernel
theorem s68_145i {L : Nat} {xs : Nat → Int32} {d x : Nat} {M : qxM} {st : List Value} {a0 a1 a2 a3 a4 a5 : Option Value} {z : Int32} {y : Int32} : Rs L xs (d) 68 145 [a0, a1, a2, a3, a4, a5, some (.int y), some (.int z)] st M x = Rs L xs (d) 68 148 [a0, a1, a2, a3, a4, a5, some (.int y), some (.int (z + (nI 1)))] st M x := Rs_next c68_145 rfl
theorem s68_145r {L : Nat} {xs : Nat → Int32} {d x : Nat} {M : qxM} {st : List Value} {a0 a1 a2 a3 a4 a5 : Option Value} {z : Int32} {y : Nat} : Rs L xs (d) 68 145 [a0, a1, a2, a3, a4, a5, some (.ref y), some (.int z)] st M x = Rs L xs (d) 68 148 [a0, a1, a2, a3, a4, a5, some (.ref y), some (.int (z + (nI 1)))] st M x := Rs_next c68_145 rfl
theorem s68_145n {L : Nat} {xs : Nat → Int32} {d x : Nat} {M : qxM} {st : List Value} {a0 a1 a2 a3 a4 a5 : Option Value} {z : Int32} : Rs L xs (d) 68 145 [a0, a1, a2, a3, a4, a5, none, some (.int z)] st M x = Rs L xs (d) 68 148 [a0, a1, a2, a3, a4, a5, none, some (.int (z + (nI 1)))] st M x := Rs_next c68_145 rfl
theorem c68_148 : qx_code 68 148 = some (148, .goto (-83), 151, 65, 0, 0) := by decide +kernel
theorem s68_148 {L : Nat} {xs : Nat → Int32} {d x : Nat} {M : qxM} {st : List Value} {ls : qxL} : Rs L xs (d) 68 148 ls st M x = Rs L xs (d) 68 65 ls st M x := Rs_next c68_148 rfl
theorem c68_151 : qx_code 68 151 = some (151, .return_, 152, 0, 0, 0) := by decide +kernel
theorem s68_151 {L : Nat} {xs : Nat → Int32} {d x : Nat} {M : qxM} {ls : qxL} : Rs L xs (d) 68 151 ls [] M x = some (.inl none, M, x) := Rs_ret c68_151 rfl
theorem c69_0 : qx_code 69 0 = some (0, .aload_n 0, 1, 0, 0, 0) := by decide +kernel
theorem s69_0 {L : Nat} {xs : Nat → Int32} {d x : Nat} {M : qxM} {st : List Value} {a1 a2 : Option Value} {z : Nat} : Rs L xs (d) 69 0 [some (.ref z), a1, a2] st M x = Rs L xs (d) 69 1 [some (.ref z), a1, a2] (.ref z :: st) M x := Rs_next c69_0 rfl
theorem c69_1 : qx_code 69 1 = some (1, .aload_n 0, 2, 0, 0, 0) := by decide +kernel
theorem s69_1 {L : Nat} {xs : Nat → Int32} {d x : Nat} {M : qxM} {st : List Value} {a1 a2 : Option Value} {z : Nat} : Rs L xs (d) 69 1 [some (.ref z), a1, a2] st M x = Rs L xs (d) 69 2 [some (.ref z), a1, a2] (.ref z :: st) M x := Rs_next c69_1 rfl
theorem c69_2 : qx_code 69 2 = some (2, .getfield 18, 5, 3, 11, 316) := by decide +kernel
theorem s69_2 {L : Nat} {xs : Nat → Int32} {d x : Nat} {M : qxM} {st : List Value} {ls : qxL} {t : Nat} (hk : qx_kd t = 13) : Rs L xs (d) 69 2 ls (.ref t :: st) M x = Rs L xs (d) 69 5 ls (.ref (t + 3) :: st) M x := Rs_when (qx_kd_obj (k := 3) (by decide) hk) c69_2 rfl
theorem c69_5 : qx_code 69 5 = some (5, .aload_n 1, 6, 0, 0, 0) := by decide +kernel
theorem s69_5 {L : Nat} {xs : Nat → Int32} {d x : Nat} {M : qxM} {st : List Value} {a0 a2 : Option Value} {z : Nat} : Rs L xs (d) 69 5 [a0, some (.ref z), a2] st M x = Rs L xs (d) 69 6 [a0, some (.ref z), a2] (.ref z :: st) M x := Rs_next c69_5 rfl
theorem c69_6 : qx_code 69 6 = some (6, .iload_n 2, 7, 0, 0, 0) := by decide +kernel
theorem s69_6 {L : Nat} {xs : Nat → Int32} {d x : Nat} {M : qxM} {st : List Value} {a0 a1 : Option Value} {z : Int32} : Rs L xs (d) 69 6 [a0, a1, some (.int z)] st M x = Rs L xs (d) 69 7 [a0, a1, some (.int z)] (.int z :: st) M x := Rs_next c69_6 rfl
theorem c69_7 : qx_code 69 7 = some (7, .invokevirtual 141, 10, 46, 2, 1282) := by decide +kernel
theorem s69_7 {L : Nat} {xs : Nat → Int32} {d x : Nat} {M : qxM} {st : List Value} {ls : qxL} {t : Nat} {z0 : Int32} (hk : qx_kd t = 12) (hs : st.length ≤ 4) : Rs L xs (d + 1) 69 7 ls (.int z0 :: .ref t :: st) M x = (Rs L xs d 46 0 [some (.ref t), some (.int z0)] [] M 0).bind (qx_kn L xs (d + 1) 69 7 10 46 ls st x) := by
  have h1 : qx_act L xs (qx_rt 69) (7, .invokevirtual 141, 10, 46, 2, 1282) ls (.int z0 :: .ref t :: st) M = if 2 ≤ (.int z0 :: .ref t :: st).length ∧ st.length ≤ 4 then some (.inr (.inr (.inr (46, [.ref t, .int z0], st)))) else none := rfl
  rw [if_pos ⟨by simp [List.length_cons]; try omega, hs⟩] at h1
  have h2 := qx_kd_obj (k := 2) (by decide) hk
  exact Rs_call c69_7 h1 (by rw [show qx_args 46 [.ref t, .int z0] = decide (qx_sh t = some (.inl 2)) from rfl]; exact decide_eq_true h2)
theorem c69_10 : qx_code 69 10 = some (10, .invokestatic 104, 13, 173, 2, 920) := by decide +kernel
theorem s69_10 {L : Nat} {xs : Nat → Int32} {d x : Nat} {M : qxM} {st : List Value} {ls : qxL} {z0 : Nat} {z1 : Int32} (hs : st.length ≤ 4) : Rs L xs (d + 1) 69 10 ls (.int z1 :: .ref z0 :: st) M x = (Rs L xs d 173 0 [some (.ref z0), some (.int z1)] [] M 0).bind (qx_kn L xs (d + 1) 69 10 13 173 ls st x) := by
  have h1 : qx_act L xs (qx_rt 69) (10, .invokestatic 104, 13, 173, 2, 920) ls (.int z1 :: .ref z0 :: st) M = if 2 ≤ (.int z1 :: .ref z0 :: st).length ∧ st.length ≤ 4 then some (.inr (.inr (.inr (173, [.ref z0, .int z1], st)))) else none := rfl
  rw [if_pos ⟨by simp [List.length_cons]; try omega, hs⟩] at h1
  exact Rs_call c69_10 h1 rfl
theorem c69_13 : qx_code 69 13 = some (13, .invokevirtual 93, 16, 58, 2, 859) := by decide +kernel
theorem s69_13 {L : Nat} {xs : Nat → Int32} {d x : Nat} {M : qxM} {st : List Value} {ls : qxL} {t : Nat} {z0 : Int32} (hk : qx_kd t = 13) (hs : st.length ≤ 4) : Rs L xs (d + 1) 69 13 ls (.int z0 :: .ref t :: st) M x = (Rs L xs d 58 0 [some (.ref t), some (.int z0)] [] M 0).bind (qx_kn L xs (d + 1) 69 13 16 58 ls st x) := by
  have h1 : qx_act L xs (qx_rt 69) (13, .invokevirtual 93, 16, 58, 2, 859) ls (.int z0 :: .ref t :: st) M = if 2 ≤ (.int z0 :: .ref t :: st).length ∧ st.length ≤ 4 then some (.inr (.inr (.inr (58, [.ref t, .int z0], st)))) else none := rfl
  rw [if_pos ⟨by simp [List.length_cons]; try omega, hs⟩] at h1
  have h2 := qx_kd_obj (k := 3) (by decide) hk
  exact Rs_call c69_13 h1 (by rw [show qx_args 58 [.ref t, .int z0] = decide (qx_sh t = some (.inl 3)) from rfl]; exact decide_eq_true h2)
theorem c69_16 : qx_code 69 16 = some (16, .ireturn, 17, 0, 0, 0) := by decide +kernel
theorem s69_16 {L : Nat} {xs : Nat → Int32} {d x : Nat} {M : qxM} {ls : qxL} {z : Int32} : Rs L xs (d) 69 16 ls [.int z] M x = some (.inl (some (.int z)), M, x) := Rs_ret c69_16 rfl
theorem c70_0 : qx_code 70 0 = some (0, .iconst 0, 1, 0, 0, 0) := by decide +kernel
theorem s70_0 {L : Nat} {xs : Nat → Int32} {d x : Nat} {M : qxM} {st : List Value} {ls : qxL} : Rs L xs (d) 70 0 ls st M x = Rs L xs (d) 70 1 ls (.int (nI 0) :: st) M x := Rs_next c70_0 rfl
theorem c70_1 : qx_code 70 1 = some (1, .istore 4, 3, 0, 0, 0) := by decide +kernel
theorem s70_1i {L : Nat} {xs : Nat → Int32} {d x : Nat} {M : qxM} {st : List Value} {a0 a1 a2 a4 a5 a6 : Option Value} {z : Int32} {y : Int32} : Rs L xs (d) 70 1 [a0, a1, a2, some (.int y), a4, a5, a6] (.int z :: st) M x = Rs L xs (d) 70 3 [a0, a1, a2, some (.int y), some (.int z), a5, a6] st M x := Rs_next c70_1 rfl
theorem s70_1r {L : Nat} {xs : Nat → Int32} {d x : Nat} {M : qxM} {st : List Value} {a0 a1 a2 a4 a5 a6 : Option Value} {z : Int32} {y : Nat} : Rs L xs (d) 70 1 [a0, a1, a2, some (.ref y), a4, a5, a6] (.int z :: st) M x = Rs L xs (d) 70 3 [a0, a1, a2, some (.ref y), some (.int z), a5, a6] st M x := Rs_next c70_1 rfl
theorem s70_1n {L : Nat} {xs : Nat → Int32} {d x : Nat} {M : qxM} {st : List Value} {a0 a1 a2 a4 a5 a6 : Option Value} {z : Int32} : Rs L xs (d) 70 1 [a0, a1, a2, none, a4, a5, a6] (.int z :: st) M x = Rs L xs (d) 70 3 [a0, a1, a2, none, some (.int z), a5, a6] st M x := Rs_next c70_1 rfl
theorem c70_3 : qx_code 70 3 = some (3, .aload_n 0, 4, 0, 0, 0) := by decide +kernel
theorem s70_3 {L : Nat} {xs : Nat → Int32} {d x : Nat} {M : qxM} {st : List Value} {a1 a2 a3 a4 a5 a6 : Option Value} {z : Nat} : Rs L xs (d) 70 3 [some (.ref z), a1, a2, a3, a4, a5, a6] st M x = Rs L xs (d) 70 4 [some (.ref z), a1, a2, a3, a4, a5, a6] (.ref z :: st) M x := Rs_next c70_3 rfl
theorem c70_4 : qx_code 70 4 = some (4, .iload_n 3, 5, 0, 0, 0) := by decide +kernel
theorem s70_4 {L : Nat} {xs : Nat → Int32} {d x : Nat} {M : qxM} {st : List Value} {a0 a1 a2 a4 a5 a6 : Option Value} {z : Int32} : Rs L xs (d) 70 4 [a0, a1, a2, some (.int z), a4, a5, a6] st M x = Rs L xs (d) 70 5 [a0, a1, a2, some (.int z), a4, a5, a6] (.int z :: st) M x := Rs_next c70_4 rfl
theorem c70_5 : qx_code 70 5 = some (5, .invokevirtual 93, 8, 58, 2, 859) := by decide +kernel
theorem s70_5 {L : Nat} {xs : Nat → Int32} {d x : Nat} {M : qxM} {st : List Value} {ls : qxL} {t : Nat} {z0 : Int32} (hk : qx_kd t = 13) (hs : st.length ≤ 4) : Rs L xs (d + 1) 70 5 ls (.int z0 :: .ref t :: st) M x = (Rs L xs d 58 0 [some (.ref t), some (.int z0)] [] M 0).bind (qx_kn L xs (d + 1) 70 5 8 58 ls st x) := by
  have h1 : qx_act L xs (qx_rt 70) (5, .invokevirtual 93, 8, 58, 2, 859) ls (.int z0 :: .ref t :: st) M = if 2 ≤ (.int z0 :: .ref t :: st).length ∧ st.length ≤ 4 then some (.inr (.inr (.inr (58, [.ref t, .int z0], st)))) else none := rfl
  rw [if_pos ⟨by simp [List.length_cons]; try omega, hs⟩] at h1
  have h2 := qx_kd_obj (k := 3) (by decide) hk
  exact Rs_call c70_5 h1 (by rw [show qx_args 58 [.ref t, .int z0] = decide (qx_sh t = some (.inl 3)) from rfl]; exact decide_eq_true h2)
theorem c70_8 : qx_code 70 8 = some (8, .istore 5, 10, 0, 0, 0) := by decide +kernel
theorem s70_8i {L : Nat} {xs : Nat → Int32} {d x : Nat} {M : qxM} {st : List Value} {a0 a1 a2 a3 a5 a6 : Option Value} {z : Int32} {y : Int32} : Rs L xs (d) 70 8 [a0, a1, a2, a3, some (.int y), a5, a6] (.int z :: st) M x = Rs L xs (d) 70 10 [a0, a1, a2, a3, some (.int y), some (.int z), a6] st M x := Rs_next c70_8 rfl
theorem s70_8r {L : Nat} {xs : Nat → Int32} {d x : Nat} {M : qxM} {st : List Value} {a0 a1 a2 a3 a5 a6 : Option Value} {z : Int32} {y : Nat} : Rs L xs (d) 70 8 [a0, a1, a2, a3, some (.ref y), a5, a6] (.int z :: st) M x = Rs L xs (d) 70 10 [a0, a1, a2, a3, some (.ref y), some (.int z), a6] st M x := Rs_next c70_8 rfl
theorem s70_8n {L : Nat} {xs : Nat → Int32} {d x : Nat} {M : qxM} {st : List Value} {a0 a1 a2 a3 a5 a6 : Option Value} {z : Int32} : Rs L xs (d) 70 8 [a0, a1, a2, a3, none, a5, a6] (.int z :: st) M x = Rs L xs (d) 70 10 [a0, a1, a2, a3, none, some (.int z), a6] st M x := Rs_next c70_8 rfl
theorem c70_10 : qx_code 70 10 = some (10, .iconst 0, 11, 0, 0, 0) := by decide +kernel
theorem s70_10 {L : Nat} {xs : Nat → Int32} {d x : Nat} {M : qxM} {st : List Value} {ls : qxL} : Rs L xs (d) 70 10 ls st M x = Rs L xs (d) 70 11 ls (.int (nI 0) :: st) M x := Rs_next c70_10 rfl
theorem c70_11 : qx_code 70 11 = some (11, .istore 6, 13, 0, 0, 0) := by decide +kernel
theorem s70_11i {L : Nat} {xs : Nat → Int32} {d x : Nat} {M : qxM} {st : List Value} {a0 a1 a2 a3 a4 a6 : Option Value} {z : Int32} {y : Int32} : Rs L xs (d) 70 11 [a0, a1, a2, a3, a4, some (.int y), a6] (.int z :: st) M x = Rs L xs (d) 70 13 [a0, a1, a2, a3, a4, some (.int y), some (.int z)] st M x := Rs_next c70_11 rfl
theorem s70_11r {L : Nat} {xs : Nat → Int32} {d x : Nat} {M : qxM} {st : List Value} {a0 a1 a2 a3 a4 a6 : Option Value} {z : Int32} {y : Nat} : Rs L xs (d) 70 11 [a0, a1, a2, a3, a4, some (.ref y), a6] (.int z :: st) M x = Rs L xs (d) 70 13 [a0, a1, a2, a3, a4, some (.ref y), some (.int z)] st M x := Rs_next c70_11 rfl
theorem s70_11n {L : Nat} {xs : Nat → Int32} {d x : Nat} {M : qxM} {st : List Value} {a0 a1 a2 a3 a4 a6 : Option Value} {z : Int32} : Rs L xs (d) 70 11 [a0, a1, a2, a3, a4, none, a6] (.int z :: st) M x = Rs L xs (d) 70 13 [a0, a1, a2, a3, a4, none, some (.int z)] st M x := Rs_next c70_11 rfl
theorem c70_13 : qx_code 70 13 = some (13, .iload 6, 15, 0, 0, 0) := by decide +kernel
theorem s70_13 {L : Nat} {xs : Nat → Int32} {d x : Nat} {M : qxM} {st : List Value} {a0 a1 a2 a3 a4 a5 : Option Value} {z : Int32} : Rs L xs (d) 70 13 [a0, a1, a2, a3, a4, a5, some (.int z)] st M x = Rs L xs (d) 70 15 [a0, a1, a2, a3, a4, a5, some (.int z)] (.int z :: st) M x := Rs_next c70_13 rfl
theorem c70_15 : qx_code 70 15 = some (15, .bipush 14, 17, 0, 0, 0) := by decide +kernel
theorem s70_15 {L : Nat} {xs : Nat → Int32} {d x : Nat} {M : qxM} {st : List Value} {ls : qxL} : Rs L xs (d) 70 15 ls st M x = Rs L xs (d) 70 17 ls (.int (nI 14) :: st) M x := Rs_next c70_15 rfl
theorem c70_17 : qx_code 70 17 = some (17, .if_icmp .ge 34, 20, 51, 0, 0) := by decide +kernel
theorem s70_17 {L : Nat} {xs : Nat → Int32} {d x : Nat} {M : qxM} {st : List Value} {ls : qxL} {z y : Int32} : Rs L xs (d) 70 17 ls (.int y :: .int z :: st) M x = if y ≤ z then Rs L xs (d) 70 51 ls st M x else Rs L xs (d) 70 20 ls st M x := Rs_ite c70_17 rfl
theorem c70_20 : qx_code 70 20 = some (20, .iload 5, 22, 0, 0, 0) := by decide +kernel
theorem s70_20 {L : Nat} {xs : Nat → Int32} {d x : Nat} {M : qxM} {st : List Value} {a0 a1 a2 a3 a4 a6 : Option Value} {z : Int32} : Rs L xs (d) 70 20 [a0, a1, a2, a3, a4, some (.int z), a6] st M x = Rs L xs (d) 70 22 [a0, a1, a2, a3, a4, some (.int z), a6] (.int z :: st) M x := Rs_next c70_20 rfl
theorem c70_22 : qx_code 70 22 = some (22, .iconst (-1), 23, 0, 0, 0) := by decide +kernel
theorem s70_22 {L : Nat} {xs : Nat → Int32} {d x : Nat} {M : qxM} {st : List Value} {ls : qxL} : Rs L xs (d) 70 22 ls st M x = Rs L xs (d) 70 23 ls (.int (-1) :: st) M x := Rs_next c70_22 rfl
theorem c70_23 : qx_code 70 23 = some (23, .if_icmp .eq 28, 26, 51, 0, 0) := by decide +kernel
theorem s70_23 {L : Nat} {xs : Nat → Int32} {d x : Nat} {M : qxM} {st : List Value} {ls : qxL} {z y : Int32} : Rs L xs (d) 70 23 ls (.int y :: .int z :: st) M x = if z = y then Rs L xs (d) 70 51 ls st M x else Rs L xs (d) 70 26 ls st M x := Rs_ite c70_23 rfl
theorem c70_26 : qx_code 70 26 = some (26, .iload 4, 28, 0, 0, 0) := by decide +kernel
theorem s70_26 {L : Nat} {xs : Nat → Int32} {d x : Nat} {M : qxM} {st : List Value} {a0 a1 a2 a3 a5 a6 : Option Value} {z : Int32} : Rs L xs (d) 70 26 [a0, a1, a2, a3, some (.int z), a5, a6] st M x = Rs L xs (d) 70 28 [a0, a1, a2, a3, some (.int z), a5, a6] (.int z :: st) M x := Rs_next c70_26 rfl
theorem c70_28 : qx_code 70 28 = some (28, .iload 5, 30, 0, 0, 0) := by decide +kernel
theorem s70_28 {L : Nat} {xs : Nat → Int32} {d x : Nat} {M : qxM} {st : List Value} {a0 a1 a2 a3 a4 a6 : Option Value} {z : Int32} : Rs L xs (d) 70 28 [a0, a1, a2, a3, a4, some (.int z), a6] st M x = Rs L xs (d) 70 30 [a0, a1, a2, a3, a4, some (.int z), a6] (.int z :: st) M x := Rs_next c70_28 rfl
theorem c70_30 : qx_code 70 30 = some (30, .invokestatic 97, 33, 169, 1, 860) := by decide +kernel
theorem s70_30 {L : Nat} {xs : Nat → Int32} {d x : Nat} {M : qxM} {st : List Value} {ls : qxL} {z0 : Int32} (hs : st.length ≤ 4) : Rs L xs (d + 1) 70 30 ls (.int z0 :: st) M x = (Rs L xs d 169 0 [some (.int z0)] [] M 0).bind (qx_kn L xs (d + 1) 70 30 33 169 ls st x) := by
  have h1 : qx_act L xs (qx_rt 70) (30, .invokestatic 97, 33, 169, 1, 860) ls (.int z0 :: st) M = if 1 ≤ (.int z0 :: st).length ∧ st.length ≤ 4 then some (.inr (.inr (.inr (169, [.int z0], st)))) else none := rfl
  rw [if_pos ⟨by simp [List.length_cons]; try omega, hs⟩] at h1
  exact Rs_call c70_30 h1 rfl
theorem c70_33 : qx_code 70 33 = some (33, .ior, 34, 0, 0, 0) := by decide +kernel
theorem s70_33 {L : Nat} {xs : Nat → Int32} {d x : Nat} {M : qxM} {st : List Value} {ls : qxL} {z y : Int32} : Rs L xs (d) 70 33 ls (.int y :: .int z :: st) M x = Rs L xs (d) 70 34 ls (.int (z ||| y) :: st) M x := Rs_next c70_33 rfl
theorem c70_34 : qx_code 70 34 = some (34, .istore 4, 36, 0, 0, 0) := by decide +kernel
theorem s70_34i {L : Nat} {xs : Nat → Int32} {d x : Nat} {M : qxM} {st : List Value} {a0 a1 a2 a4 a5 a6 : Option Value} {z : Int32} {y : Int32} : Rs L xs (d) 70 34 [a0, a1, a2, some (.int y), a4, a5, a6] (.int z :: st) M x = Rs L xs (d) 70 36 [a0, a1, a2, some (.int y), some (.int z), a5, a6] st M x := Rs_next c70_34 rfl
theorem s70_34r {L : Nat} {xs : Nat → Int32} {d x : Nat} {M : qxM} {st : List Value} {a0 a1 a2 a4 a5 a6 : Option Value} {z : Int32} {y : Nat} : Rs L xs (d) 70 34 [a0, a1, a2, some (.ref y), a4, a5, a6] (.int z :: st) M x = Rs L xs (d) 70 36 [a0, a1, a2, some (.ref y), some (.int z), a5, a6] st M x := Rs_next c70_34 rfl
theorem s70_34n {L : Nat} {xs : Nat → Int32} {d x : Nat} {M : qxM} {st : List Value} {a0 a1 a2 a4 a5 a6 : Option Value} {z : Int32} : Rs L xs (d) 70 34 [a0, a1, a2, none, a4, a5, a6] (.int z :: st) M x = Rs L xs (d) 70 36 [a0, a1, a2, none, some (.int z), a5, a6] st M x := Rs_next c70_34 rfl
theorem c70_36 : qx_code 70 36 = some (36, .aload_n 0, 37, 0, 0, 0) := by decide +kernel
theorem s70_36 {L : Nat} {xs : Nat → Int32} {d x : Nat} {M : qxM} {st : List Value} {a1 a2 a3 a4 a5 a6 : Option Value} {z : Nat} : Rs L xs (d) 70 36 [some (.ref z), a1, a2, a3, a4, a5, a6] st M x = Rs L xs (d) 70 37 [some (.ref z), a1, a2, a3, a4, a5, a6] (.ref z :: st) M x := Rs_next c70_36 rfl
theorem c70_37 : qx_code 70 37 = some (37, .aload_n 1, 38, 0, 0, 0) := by decide +kernel
theorem s70_37 {L : Nat} {xs : Nat → Int32} {d x : Nat} {M : qxM} {st : List Value} {a0 a2 a3 a4 a5 a6 : Option Value} {z : Nat} : Rs L xs (d) 70 37 [a0, some (.ref z), a2, a3, a4, a5, a6] st M x = Rs L xs (d) 70 38 [a0, some (.ref z), a2, a3, a4, a5, a6] (.ref z :: st) M x := Rs_next c70_37 rfl
theorem c70_38 : qx_code 70 38 = some (38, .iload 5, 40, 0, 0, 0) := by decide +kernel
theorem s70_38 {L : Nat} {xs : Nat → Int32} {d x : Nat} {M : qxM} {st : List Value} {a0 a1 a2 a3 a4 a6 : Option Value} {z : Int32} : Rs L xs (d) 70 38 [a0, a1, a2, a3, a4, some (.int z), a6] st M x = Rs L xs (d) 70 40 [a0, a1, a2, a3, a4, some (.int z), a6] (.int z :: st) M x := Rs_next c70_38 rfl
theorem c70_40 : qx_code 70 40 = some (40, .invokevirtual 165, 43, 69, 3, 1278) := by decide +kernel
theorem s70_40 {L : Nat} {xs : Nat → Int32} {d x : Nat} {M : qxM} {st : List Value} {ls : qxL} {t : Nat} {z0 : Nat} {z1 : Int32} (hk : qx_kd t = 13) (hs : st.length ≤ 4) : Rs L xs (d + 1) 70 40 ls (.int z1 :: .ref z0 :: .ref t :: st) M x = (Rs L xs d 69 0 [some (.ref t), some (.ref z0), some (.int z1)] [] M 0).bind (qx_kn L xs (d + 1) 70 40 43 69 ls st x) := by
  have h1 : qx_act L xs (qx_rt 70) (40, .invokevirtual 165, 43, 69, 3, 1278) ls (.int z1 :: .ref z0 :: .ref t :: st) M = if 3 ≤ (.int z1 :: .ref z0 :: .ref t :: st).length ∧ st.length ≤ 4 then some (.inr (.inr (.inr (69, [.ref t, .ref z0, .int z1], st)))) else none := rfl
  rw [if_pos ⟨by simp [List.length_cons]; try omega, hs⟩] at h1
  have h2 := qx_kd_obj (k := 3) (by decide) hk
  exact Rs_call c70_40 h1 (by rw [show qx_args 69 [.ref t, .ref z0, .int z1] = decide (qx_sh t = some (.inl 3)) from rfl]; exact decide_eq_true h2)
theorem c70_43 : qx_code 70 43 = some (43, .istore 5, 45, 0, 0, 0) := by decide +kernel
theorem s70_43i {L : Nat} {xs : Nat → Int32} {d x : Nat} {M : qxM} {st : List Value} {a0 a1 a2 a3 a5 a6 : Option Value} {z : Int32} {y : Int32} : Rs L xs (d) 70 43 [a0, a1, a2, a3, some (.int y), a5, a6] (.int z :: st) M x = Rs L xs (d) 70 45 [a0, a1, a2, a3, some (.int y), some (.int z), a6] st M x := Rs_next c70_43 rfl
theorem s70_43r {L : Nat} {xs : Nat → Int32} {d x : Nat} {M : qxM} {st : List Value} {a0 a1 a2 a3 a5 a6 : Option Value} {z : Int32} {y : Nat} : Rs L xs (d) 70 43 [a0, a1, a2, a3, some (.ref y), a5, a6] (.int z :: st) M x = Rs L xs (d) 70 45 [a0, a1, a2, a3, some (.ref y), some (.int z), a6] st M x := Rs_next c70_43 rfl
theorem s70_43n {L : Nat} {xs : Nat → Int32} {d x : Nat} {M : qxM} {st : List Value} {a0 a1 a2 a3 a5 a6 : Option Value} {z : Int32} : Rs L xs (d) 70 43 [a0, a1, a2, a3, none, a5, a6] (.int z :: st) M x = Rs L xs (d) 70 45 [a0, a1, a2, a3, none, some (.int z), a6] st M x := Rs_next c70_43 rfl
theorem c70_45 : qx_code 70 45 = some (45, .iinc 6 1, 48, 0, 0, 0) := by decide +kernel
theorem s70_45i {L : Nat} {xs : Nat → Int32} {d x : Nat} {M : qxM} {st : List Value} {a0 a1 a2 a3 a4 : Option Value} {z : Int32} {y : Int32} : Rs L xs (d) 70 45 [a0, a1, a2, a3, a4, some (.int y), some (.int z)] st M x = Rs L xs (d) 70 48 [a0, a1, a2, a3, a4, some (.int y), some (.int (z + (nI 1)))] st M x := Rs_next c70_45 rfl
theorem s70_45r {L : Nat} {xs : Nat → Int32} {d x : Nat} {M : qxM} {st : List Value} {a0 a1 a2 a3 a4 : Option Value} {z : Int32} {y : Nat} : Rs L xs (d) 70 45 [a0, a1, a2, a3, a4, some (.ref y), some (.int z)] st M x = Rs L xs (d) 70 48 [a0, a1, a2, a3, a4, some (.ref y), some (.int (z + (nI 1)))] st M x := Rs_next c70_45 rfl
theorem s70_45n {L : Nat} {xs : Nat → Int32} {d x : Nat} {M : qxM} {st : List Value} {a0 a1 a2 a3 a4 : Option Value} {z : Int32} : Rs L xs (d) 70 45 [a0, a1, a2, a3, a4, none, some (.int z)] st M x = Rs L xs (d) 70 48 [a0, a1, a2, a3, a4, none, some (.int (z + (nI 1)))] st M x := Rs_next c70_45 rfl
theorem c70_48 : qx_code 70 48 = some (48, .goto (-35), 51, 13, 0, 0) := by decide +kernel
theorem s70_48 {L : Nat} {xs : Nat → Int32} {d x : Nat} {M : qxM} {st : List Value} {ls : qxL} : Rs L xs (d) 70 48 ls st M x = Rs L xs (d) 70 13 ls st M x := Rs_next c70_48 rfl
theorem c70_51 : qx_code 70 51 = some (51, .aload_n 0, 52, 0, 0, 0) := by decide +kernel
theorem s70_51 {L : Nat} {xs : Nat → Int32} {d x : Nat} {M : qxM} {st : List Value} {a1 a2 a3 a4 a5 a6 : Option Value} {z : Nat} : Rs L xs (d) 70 51 [some (.ref z), a1, a2, a3, a4, a5, a6] st M x = Rs L xs (d) 70 52 [some (.ref z), a1, a2, a3, a4, a5, a6] (.ref z :: st) M x := Rs_next c70_51 rfl
theorem c70_52 : qx_code 70 52 = some (52, .iload_n 2, 53, 0, 0, 0) := by decide +kernel
theorem s70_52 {L : Nat} {xs : Nat → Int32} {d x : Nat} {M : qxM} {st : List Value} {a0 a1 a3 a4 a5 a6 : Option Value} {z : Int32} : Rs L xs (d) 70 52 [a0, a1, some (.int z), a3, a4, a5, a6] st M x = Rs L xs (d) 70 53 [a0, a1, some (.int z), a3, a4, a5, a6] (.int z :: st) M x := Rs_next c70_52 rfl
theorem c70_53 : qx_code 70 53 = some (53, .invokevirtual 93, 56, 58, 2, 859) := by decide +kernel
theorem s70_53 {L : Nat} {xs : Nat → Int32} {d x : Nat} {M : qxM} {st : List Value} {ls : qxL} {t : Nat} {z0 : Int32} (hk : qx_kd t = 13) (hs : st.length ≤ 4) : Rs L xs (d + 1) 70 53 ls (.int z0 :: .ref t :: st) M x = (Rs L xs d 58 0 [some (.ref t), some (.int z0)] [] M 0).bind (qx_kn L xs (d + 1) 70 53 56 58 ls st x) := by
  have h1 : qx_act L xs (qx_rt 70) (53, .invokevirtual 93, 56, 58, 2, 859) ls (.int z0 :: .ref t :: st) M = if 2 ≤ (.int z0 :: .ref t :: st).length ∧ st.length ≤ 4 then some (.inr (.inr (.inr (58, [.ref t, .int z0], st)))) else none := rfl
  rw [if_pos ⟨by simp [List.length_cons]; try omega, hs⟩] at h1
  have h2 := qx_kd_obj (k := 3) (by decide) hk
  exact Rs_call c70_53 h1 (by rw [show qx_args 58 [.ref t, .int z0] = decide (qx_sh t = some (.inl 3)) from rfl]; exact decide_eq_true h2)
theorem c70_56 : qx_code 70 56 = some (56, .istore 5, 58, 0, 0, 0) := by decide +kernel
theorem s70_56i {L : Nat} {xs : Nat → Int32} {d x : Nat} {M : qxM} {st : List Value} {a0 a1 a2 a3 a5 a6 : Option Value} {z : Int32} {y : Int32} : Rs L xs (d) 70 56 [a0, a1, a2, a3, some (.int y), a5, a6] (.int z :: st) M x = Rs L xs (d) 70 58 [a0, a1, a2, a3, some (.int y), some (.int z), a6] st M x := Rs_next c70_56 rfl
theorem s70_56r {L : Nat} {xs : Nat → Int32} {d x : Nat} {M : qxM} {st : List Value} {a0 a1 a2 a3 a5 a6 : Option Value} {z : Int32} {y : Nat} : Rs L xs (d) 70 56 [a0, a1, a2, a3, some (.ref y), a5, a6] (.int z :: st) M x = Rs L xs (d) 70 58 [a0, a1, a2, a3, some (.ref y), some (.int z), a6] st M x := Rs_next c70_56 rfl
theorem s70_56n {L : Nat} {xs : Nat → Int32} {d x : Nat} {M : qxM} {st : List Value} {a0 a1 a2 a3 a5 a6 : Option Value} {z : Int32} : Rs L xs (d) 70 56 [a0, a1, a2, a3, none, a5, a6] (.int z :: st) M x = Rs L xs (d) 70 58 [a0, a1, a2, a3, none, some (.int z), a6] st M x := Rs_next c70_56 rfl
theorem c70_58 : qx_code 70 58 = some (58, .iconst 0, 59, 0, 0, 0) := by decide +kernel
theorem s70_58 {L : Nat} {xs : Nat → Int32} {d x : Nat} {M : qxM} {st : List Value} {ls : qxL} : Rs L xs (d) 70 58 ls st M x = Rs L xs (d) 70 59 ls (.int (nI 0) :: st) M x := Rs_next c70_58 rfl
theorem c70_59 : qx_code 70 59 = some (59, .istore 6, 61, 0, 0, 0) := by decide +kernel
theorem s70_59i {L : Nat} {xs : Nat → Int32} {d x : Nat} {M : qxM} {st : List Value} {a0 a1 a2 a3 a4 a6 : Option Value} {z : Int32} {y : Int32} : Rs L xs (d) 70 59 [a0, a1, a2, a3, a4, some (.int y), a6] (.int z :: st) M x = Rs L xs (d) 70 61 [a0, a1, a2, a3, a4, some (.int y), some (.int z)] st M x := Rs_next c70_59 rfl
theorem s70_59r {L : Nat} {xs : Nat → Int32} {d x : Nat} {M : qxM} {st : List Value} {a0 a1 a2 a3 a4 a6 : Option Value} {z : Int32} {y : Nat} : Rs L xs (d) 70 59 [a0, a1, a2, a3, a4, some (.ref y), a6] (.int z :: st) M x = Rs L xs (d) 70 61 [a0, a1, a2, a3, a4, some (.ref y), some (.int z)] st M x := Rs_next c70_59 rfl
theorem s70_59n {L : Nat} {xs : Nat → Int32} {d x : Nat} {M : qxM} {st : List Value} {a0 a1 a2 a3 a4 a6 : Option Value} {z : Int32} : Rs L xs (d) 70 59 [a0, a1, a2, a3, a4, none, a6] (.int z :: st) M x = Rs L xs (d) 70 61 [a0, a1, a2, a3, a4, none, some (.int z)] st M x := Rs_next c70_59 rfl
theorem c70_61 : qx_code 70 61 = some (61, .iload 6, 63, 0, 0, 0) := by decide +kernel
theorem s70_61 {L : Nat} {xs : Nat → Int32} {d x : Nat} {M : qxM} {st : List Value} {a0 a1 a2 a3 a4 a5 : Option Value} {z : Int32} : Rs L xs (d) 70 61 [a0, a1, a2, a3, a4, a5, some (.int z)] st M x = Rs L xs (d) 70 63 [a0, a1, a2, a3, a4, a5, some (.int z)] (.int z :: st) M x := Rs_next c70_61 rfl
theorem c70_63 : qx_code 70 63 = some (63, .bipush 14, 65, 0, 0, 0) := by decide +kernel
theorem s70_63 {L : Nat} {xs : Nat → Int32} {d x : Nat} {M : qxM} {st : List Value} {ls : qxL} : Rs L xs (d) 70 63 ls st M x = Rs L xs (d) 70 65 ls (.int (nI 14) :: st) M x := Rs_next c70_63 rfl
theorem c70_65 : qx_code 70 65 = some (65, .if_icmp .ge 34, 68, 99, 0, 0) := by decide +kernel
theorem s70_65 {L : Nat} {xs : Nat → Int32} {d x : Nat} {M : qxM} {st : List Value} {ls : qxL} {z y : Int32} : Rs L xs (d) 70 65 ls (.int y :: .int z :: st) M x = if y ≤ z then Rs L xs (d) 70 99 ls st M x else Rs L xs (d) 70 68 ls st M x := Rs_ite c70_65 rfl
theorem c70_68 : qx_code 70 68 = some (68, .iload 5, 70, 0, 0, 0) := by decide +kernel
theorem s70_68 {L : Nat} {xs : Nat → Int32} {d x : Nat} {M : qxM} {st : List Value} {a0 a1 a2 a3 a4 a6 : Option Value} {z : Int32} : Rs L xs (d) 70 68 [a0, a1, a2, a3, a4, some (.int z), a6] st M x = Rs L xs (d) 70 70 [a0, a1, a2, a3, a4, some (.int z), a6] (.int z :: st) M x := Rs_next c70_68 rfl
theorem c70_70 : qx_code 70 70 = some (70, .iconst (-1), 71, 0, 0, 0) := by decide +kernel
theorem s70_70 {L : Nat} {xs : Nat → Int32} {d x : Nat} {M : qxM} {st : List Value} {ls : qxL} : Rs L xs (d) 70 70 ls st M x = Rs L xs (d) 70 71 ls (.int (-1) :: st) M x := Rs_next c70_70 rfl
theorem c70_71 : qx_code 70 71 = some (71, .if_icmp .eq 28, 74, 99, 0, 0) := by decide +kernel
theorem s70_71 {L : Nat} {xs : Nat → Int32} {d x : Nat} {M : qxM} {st : List Value} {ls : qxL} {z y : Int32} : Rs L xs (d) 70 71 ls (.int y :: .int z :: st) M x = if z = y then Rs L xs (d) 70 99 ls st M x else Rs L xs (d) 70 74 ls st M x := Rs_ite c70_71 rfl
theorem c70_74 : qx_code 70 74 = some (74, .iload 4, 76, 0, 0, 0) := by decide +kernel
theorem s70_74 {L : Nat} {xs : Nat → Int32} {d x : Nat} {M : qxM} {st : List Value} {a0 a1 a2 a3 a5 a6 : Option Value} {z : Int32} : Rs L xs (d) 70 74 [a0, a1, a2, a3, some (.int z), a5, a6] st M x = Rs L xs (d) 70 76 [a0, a1, a2, a3, some (.int z), a5, a6] (.int z :: st) M x := Rs_next c70_74 rfl
theorem c70_76 : qx_code 70 76 = some (76, .iload 5, 78, 0, 0, 0) := by decide +kernel
theorem s70_76 {L : Nat} {xs : Nat → Int32} {d x : Nat} {M : qxM} {st : List Value} {a0 a1 a2 a3 a4 a6 : Option Value} {z : Int32} : Rs L xs (d) 70 76 [a0, a1, a2, a3, a4, some (.int z), a6] st M x = Rs L xs (d) 70 78 [a0, a1, a2, a3, a4, some (.int z), a6] (.int z :: st) M x := Rs_next c70_76 rfl
theorem c70_78 : qx_code 70 78 = some (78, .invokestatic 89, 81, 170, 2, 876) := by decide +kernel
theorem s70_78 {L : Nat} {xs : Nat → Int32} {d x : Nat} {M : qxM} {st : List Value} {ls : qxL} {z0 : Int32} {z1 : Int32} (hs : st.length ≤ 4) : Rs L xs (d + 1) 70 78 ls (.int z1 :: .int z0 :: st) M x = (Rs L xs d 170 0 [some (.int z0), some (.int z1)] [] M 0).bind (qx_kn L xs (d + 1) 70 78 81 170 ls st x) := by
  have h1 : qx_act L xs (qx_rt 70) (78, .invokestatic 89, 81, 170, 2, 876) ls (.int z1 :: .int z0 :: st) M = if 2 ≤ (.int z1 :: .int z0 :: st).length ∧ st.length ≤ 4 then some (.inr (.inr (.inr (170, [.int z0, .int z1], st)))) else none := rfl
  rw [if_pos ⟨by simp [List.length_cons]; try omega, hs⟩] at h1
  exact Rs_call c70_78 h1 rfl
theorem c70_81 : qx_code 70 81 = some (81, .ifCond .ne 18, 84, 99, 0, 0) := by decide +kernel
theorem s70_81 {L : Nat} {xs : Nat → Int32} {d x : Nat} {M : qxM} {st : List Value} {ls : qxL} {z : Int32} : Rs L xs (d) 70 81 ls (.int z :: st) M x = if z = 0 then Rs L xs (d) 70 84 ls st M x else Rs L xs (d) 70 99 ls st M x := Rs_ite c70_81 rfl
theorem c70_84 : qx_code 70 84 = some (84, .aload_n 0, 85, 0, 0, 0) := by decide +kernel
theorem s70_84 {L : Nat} {xs : Nat → Int32} {d x : Nat} {M : qxM} {st : List Value} {a1 a2 a3 a4 a5 a6 : Option Value} {z : Nat} : Rs L xs (d) 70 84 [some (.ref z), a1, a2, a3, a4, a5, a6] st M x = Rs L xs (d) 70 85 [some (.ref z), a1, a2, a3, a4, a5, a6] (.ref z :: st) M x := Rs_next c70_84 rfl
theorem c70_85 : qx_code 70 85 = some (85, .aload_n 1, 86, 0, 0, 0) := by decide +kernel
theorem s70_85 {L : Nat} {xs : Nat → Int32} {d x : Nat} {M : qxM} {st : List Value} {a0 a2 a3 a4 a5 a6 : Option Value} {z : Nat} : Rs L xs (d) 70 85 [a0, some (.ref z), a2, a3, a4, a5, a6] st M x = Rs L xs (d) 70 86 [a0, some (.ref z), a2, a3, a4, a5, a6] (.ref z :: st) M x := Rs_next c70_85 rfl
theorem c70_86 : qx_code 70 86 = some (86, .iload 5, 88, 0, 0, 0) := by decide +kernel
theorem s70_86 {L : Nat} {xs : Nat → Int32} {d x : Nat} {M : qxM} {st : List Value} {a0 a1 a2 a3 a4 a6 : Option Value} {z : Int32} : Rs L xs (d) 70 86 [a0, a1, a2, a3, a4, some (.int z), a6] st M x = Rs L xs (d) 70 88 [a0, a1, a2, a3, a4, some (.int z), a6] (.int z :: st) M x := Rs_next c70_86 rfl
theorem c70_88 : qx_code 70 88 = some (88, .invokevirtual 165, 91, 69, 3, 1278) := by decide +kernel
theorem s70_88 {L : Nat} {xs : Nat → Int32} {d x : Nat} {M : qxM} {st : List Value} {ls : qxL} {t : Nat} {z0 : Nat} {z1 : Int32} (hk : qx_kd t = 13) (hs : st.length ≤ 4) : Rs L xs (d + 1) 70 88 ls (.int z1 :: .ref z0 :: .ref t :: st) M x = (Rs L xs d 69 0 [some (.ref t), some (.ref z0), some (.int z1)] [] M 0).bind (qx_kn L xs (d + 1) 70 88 91 69 ls st x) := by
  have h1 : qx_act L xs (qx_rt 70) (88, .invokevirtual 165, 91, 69, 3, 1278) ls (.int z1 :: .ref z0 :: .ref t :: st) M = if 3 ≤ (.int z1 :: .ref z0 :: .ref t :: st).length ∧ st.length ≤ 4 then some (.inr (.inr (.inr (69, [.ref t, .ref z0, .int z1], st)))) else none := rfl
  rw [if_pos ⟨by simp [List.length_cons]; try omega, hs⟩] at h1
  have h2 := qx_kd_obj (k := 3) (by decide) hk
  exact Rs_call c70_88 h1 (by rw [show qx_args 69 [.ref t, .ref z0, .int z1] = decide (qx_sh t = some (.inl 3)) from rfl]; exact decide_eq_true h2)
theorem c70_91 : qx_code 70 91 = some (91, .istore 5, 93, 0, 0, 0) := by decide +kernel
theorem s70_91i {L : Nat} {xs : Nat → Int32} {d x : Nat} {M : qxM} {st : List Value} {a0 a1 a2 a3 a5 a6 : Option Value} {z : Int32} {y : Int32} : Rs L xs (d) 70 91 [a0, a1, a2, a3, some (.int y), a5, a6] (.int z :: st) M x = Rs L xs (d) 70 93 [a0, a1, a2, a3, some (.int y), some (.int z), a6] st M x := Rs_next c70_91 rfl
theorem s70_91r {L : Nat} {xs : Nat → Int32} {d x : Nat} {M : qxM} {st : List Value} {a0 a1 a2 a3 a5 a6 : Option Value} {z : Int32} {y : Nat} : Rs L xs (d) 70 91 [a0, a1, a2, a3, some (.ref y), a5, a6] (.int z :: st) M x = Rs L xs (d) 70 93 [a0, a1, a2, a3, some (.ref y), some (.int z), a6] st M x := Rs_next c70_91 rfl
theorem s70_91n {L : Nat} {xs : Nat → Int32} {d x : Nat} {M : qxM} {st : List Value} {a0 a1 a2 a3 a5 a6 : Option Value} {z : Int32} : Rs L xs (d) 70 91 [a0, a1, a2, a3, none, a5, a6] (.int z :: st) M x = Rs L xs (d) 70 93 [a0, a1, a2, a3, none, some (.int z), a6] st M x := Rs_next c70_91 rfl
theorem c70_93 : qx_code 70 93 = some (93, .iinc 6 1, 96, 0, 0, 0) := by decide +kernel
theorem s70_93i {L : Nat} {xs : Nat → Int32} {d x : Nat} {M : qxM} {st : List Value} {a0 a1 a2 a3 a4 : Option Value} {z : Int32} {y : Int32} : Rs L xs (d) 70 93 [a0, a1, a2, a3, a4, some (.int y), some (.int z)] st M x = Rs L xs (d) 70 96 [a0, a1, a2, a3, a4, some (.int y), some (.int (z + (nI 1)))] st M x := Rs_next c70_93 rfl
theorem s70_93r {L : Nat} {xs : Nat → Int32} {d x : Nat} {M : qxM} {st : List Value} {a0 a1 a2 a3 a4 : Option Value} {z : Int32} {y : Nat} : Rs L xs (d) 70 93 [a0, a1, a2, a3, a4, some (.ref y), some (.int z)] st M x = Rs L xs (d) 70 96 [a0, a1, a2, a3, a4, some (.ref y), some (.int (z + (nI 1)))] st M x := Rs_next c70_93 rfl
theorem s70_93n {L : Nat} {xs : Nat → Int32} {d x : Nat} {M : qxM} {st : List Value} {a0 a1 a2 a3 a4 : Option Value} {z : Int32} : Rs L xs (d) 70 93 [a0, a1, a2, a3, a4, none, some (.int z)] st M x = Rs L xs (d) 70 96 [a0, a1, a2, a3, a4, none, some (.int (z + (nI 1)))] st M x := Rs_next c70_93 rfl
theorem c70_96 : qx_code 70 96 = some (96, .goto (-35), 99, 61, 0, 0) := by decide +kernel
theorem s70_96 {L : Nat} {xs : Nat → Int32} {d x : Nat} {M : qxM} {st : List Value} {ls : qxL} : Rs L xs (d) 70 96 ls st M x = Rs L xs (d) 70 61 ls st M x := Rs_next c70_96 rfl
theorem c70_99 : qx_code 70 99 = some (99, .iload 5, 101, 0, 0, 0) := by decide +kernel
theorem s70_99 {L : Nat} {xs : Nat → Int32} {d x : Nat} {M : qxM} {st : List Value} {a0 a1 a2 a3 a4 a6 : Option Value} {z : Int32} : Rs L xs (d) 70 99 [a0, a1, a2, a3, a4, some (.int z), a6] st M x = Rs L xs (d) 70 101 [a0, a1, a2, a3, a4, some (.int z), a6] (.int z :: st) M x := Rs_next c70_99 rfl
theorem c70_101 : qx_code 70 101 = some (101, .ireturn, 102, 0, 0, 0) := by decide +kernel
theorem s70_101 {L : Nat} {xs : Nat → Int32} {d x : Nat} {M : qxM} {ls : qxL} {z : Int32} : Rs L xs (d) 70 101 ls [.int z] M x = some (.inl (some (.int z)), M, x) := Rs_ret c70_101 rfl
theorem c71_0 : qx_code 71 0 = some (0, .iconst 0, 1, 0, 0, 0) := by decide +kernel
theorem s71_0 {L : Nat} {xs : Nat → Int32} {d x : Nat} {M : qxM} {st : List Value} {ls : qxL} : Rs L xs (d) 71 0 ls st M x = Rs L xs (d) 71 1 ls (.int (nI 0) :: st) M x := Rs_next c71_0 rfl
theorem c71_1 : qx_code 71 1 = some (1, .istore 5, 3, 0, 0, 0) := by decide +kernel
theorem s71_1i {L : Nat} {xs : Nat → Int32} {d x : Nat} {M : qxM} {st : List Value} {a0 a1 a2 a3 a5 a6 a7 a8 : Option Value} {z : Int32} {y : Int32} : Rs L xs (d) 71 1 [a0, a1, a2, a3, some (.int y), a5, a6, a7, a8] (.int z :: st) M x = Rs L xs (d) 71 3 [a0, a1, a2, a3, some (.int y), some (.int z), a6, a7, a8] st M x := Rs_next c71_1 rfl
theorem s71_1r {L : Nat} {xs : Nat → Int32} {d x : Nat} {M : qxM} {st : List Value} {a0 a1 a2 a3 a5 a6 a7 a8 : Option Value} {z : Int32} {y : Nat} : Rs L xs (d) 71 1 [a0, a1, a2, a3, some (.ref y), a5, a6, a7, a8] (.int z :: st) M x = Rs L xs (d) 71 3 [a0, a1, a2, a3, some (.ref y), some (.int z), a6, a7, a8] st M x := Rs_next c71_1 rfl
theorem s71_1n {L : Nat} {xs : Nat → Int32} {d x : Nat} {M : qxM} {st : List Value} {a0 a1 a2 a3 a5 a6 a7 a8 : Option Value} {z : Int32} : Rs L xs (d) 71 1 [a0, a1, a2, a3, none, a5, a6, a7, a8] (.int z :: st) M x = Rs L xs (d) 71 3 [a0, a1, a2, a3, none, some (.int z), a6, a7, a8] st M x := Rs_next c71_1 rfl
theorem c71_3 : qx_code 71 3 = some (3, .aload_n 0, 4, 0, 0, 0) := by decide +kernel
theorem s71_3 {L : Nat} {xs : Nat → Int32} {d x : Nat} {M : qxM} {st : List Value} {a1 a2 a3 a4 a5 a6 a7 a8 : Option Value} {z : Nat} : Rs L xs (d) 71 3 [some (.ref z), a1, a2, a3, a4, a5, a6, a7, a8] st M x = Rs L xs (d) 71 4 [some (.ref z), a1, a2, a3, a4, a5, a6, a7, a8] (.ref z :: st) M x := Rs_next c71_3 rfl
theorem c71_4 : qx_code 71 4 = some (4, .iload_n 2, 5, 0, 0, 0) := by decide +kernel
theorem s71_4 {L : Nat} {xs : Nat → Int32} {d x : Nat} {M : qxM} {st : List Value} {a0 a1 a3 a4 a5 a6 a7 a8 : Option Value} {z : Int32} : Rs L xs (d) 71 4 [a0, a1, some (.int z), a3, a4, a5, a6, a7, a8] st M x = Rs L xs (d) 71 5 [a0, a1, some (.int z), a3, a4, a5, a6, a7, a8] (.int z :: st) M x := Rs_next c71_4 rfl
theorem c71_5 : qx_code 71 5 = some (5, .invokevirtual 93, 8, 58, 2, 859) := by decide +kernel
theorem s71_5 {L : Nat} {xs : Nat → Int32} {d x : Nat} {M : qxM} {st : List Value} {ls : qxL} {t : Nat} {z0 : Int32} (hk : qx_kd t = 13) (hs : st.length ≤ 4) : Rs L xs (d + 1) 71 5 ls (.int z0 :: .ref t :: st) M x = (Rs L xs d 58 0 [some (.ref t), some (.int z0)] [] M 0).bind (qx_kn L xs (d + 1) 71 5 8 58 ls st x) := by
  have h1 : qx_act L xs (qx_rt 71) (5, .invokevirtual 93, 8, 58, 2, 859) ls (.int z0 :: .ref t :: st) M = if 2 ≤ (.int z0 :: .ref t :: st).length ∧ st.length ≤ 4 then some (.inr (.inr (.inr (58, [.ref t, .int z0], st)))) else none := rfl
  rw [if_pos ⟨by simp [List.length_cons]; try omega, hs⟩] at h1
  have h2 := qx_kd_obj (k := 3) (by decide) hk
  exact Rs_call c71_5 h1 (by rw [show qx_args 58 [.ref t, .int z0] = decide (qx_sh t = some (.inl 3)) from rfl]; exact decide_eq_true h2)
theorem c71_8 : qx_code 71 8 = some (8, .istore 6, 10, 0, 0, 0) := by decide +kernel
theorem s71_8i {L : Nat} {xs : Nat → Int32} {d x : Nat} {M : qxM} {st : List Value} {a0 a1 a2 a3 a4 a6 a7 a8 : Option Value} {z : Int32} {y : Int32} : Rs L xs (d) 71 8 [a0, a1, a2, a3, a4, some (.int y), a6, a7, a8] (.int z :: st) M x = Rs L xs (d) 71 10 [a0, a1, a2, a3, a4, some (.int y), some (.int z), a7, a8] st M x := Rs_next c71_8 rfl
theorem s71_8r {L : Nat} {xs : Nat → Int32} {d x : Nat} {M : qxM} {st : List Value} {a0 a1 a2 a3 a4 a6 a7 a8 : Option Value} {z : Int32} {y : Nat} : Rs L xs (d) 71 8 [a0, a1, a2, a3, a4, some (.ref y), a6, a7, a8] (.int z :: st) M x = Rs L xs (d) 71 10 [a0, a1, a2, a3, a4, some (.ref y), some (.int z), a7, a8] st M x := Rs_next c71_8 rfl
theorem s71_8n {L : Nat} {xs : Nat → Int32} {d x : Nat} {M : qxM} {st : List Value} {a0 a1 a2 a3 a4 a6 a7 a8 : Option Value} {z : Int32} : Rs L xs (d) 71 8 [a0, a1, a2, a3, a4, none, a6, a7, a8] (.int z :: st) M x = Rs L xs (d) 71 10 [a0, a1, a2, a3, a4, none, some (.int z), a7, a8] st M x := Rs_next c71_8 rfl
theorem c71_10 : qx_code 71 10 = some (10, .iconst 0, 11, 0, 0, 0) := by decide +kernel
theorem s71_10 {L : Nat} {xs : Nat → Int32} {d x : Nat} {M : qxM} {st : List Value} {ls : qxL} : Rs L xs (d) 71 10 ls st M x = Rs L xs (d) 71 11 ls (.int (nI 0) :: st) M x := Rs_next c71_10 rfl
theorem c71_11 : qx_code 71 11 = some (11, .istore 7, 13, 0, 0, 0) := by decide +kernel
theorem s71_11i {L : Nat} {xs : Nat → Int32} {d x : Nat} {M : qxM} {st : List Value} {a0 a1 a2 a3 a4 a5 a7 a8 : Option Value} {z : Int32} {y : Int32} : Rs L xs (d) 71 11 [a0, a1, a2, a3, a4, a5, some (.int y), a7, a8] (.int z :: st) M x = Rs L xs (d) 71 13 [a0, a1, a2, a3, a4, a5, some (.int y), some (.int z), a8] st M x := Rs_next c71_11 rfl
theorem s71_11r {L : Nat} {xs : Nat → Int32} {d x : Nat} {M : qxM} {st : List Value} {a0 a1 a2 a3 a4 a5 a7 a8 : Option Value} {z : Int32} {y : Nat} : Rs L xs (d) 71 11 [a0, a1, a2, a3, a4, a5, some (.ref y), a7, a8] (.int z :: st) M x = Rs L xs (d) 71 13 [a0, a1, a2, a3, a4, a5, some (.ref y), some (.int z), a8] st M x := Rs_next c71_11 rfl
theorem s71_11n {L : Nat} {xs : Nat → Int32} {d x : Nat} {M : qxM} {st : List Value} {a0 a1 a2 a3 a4 a5 a7 a8 : Option Value} {z : Int32} : Rs L xs (d) 71 11 [a0, a1, a2, a3, a4, a5, none, a7, a8] (.int z :: st) M x = Rs L xs (d) 71 13 [a0, a1, a2, a3, a4, a5, none, some (.int z), a8] st M x := Rs_next c71_11 rfl
theorem c71_13 : qx_code 71 13 = some (13, .iload 7, 15, 0, 0, 0) := by decide +kernel
theorem s71_13 {L : Nat} {xs : Nat → Int32} {d x : Nat} {M : qxM} {st : List Value} {a0 a1 a2 a3 a4 a5 a6 a8 : Option Value} {z : Int32} : Rs L xs (d) 71 13 [a0, a1, a2, a3, a4, a5, a6, some (.int z), a8] st M x = Rs L xs (d) 71 15 [a0, a1, a2, a3, a4, a5, a6, some (.int z), a8] (.int z :: st) M x := Rs_next c71_13 rfl
theorem c71_15 : qx_code 71 15 = some (15, .bipush 14, 17, 0, 0, 0) := by decide +kernel
theorem s71_15 {L : Nat} {xs : Nat → Int32} {d x : Nat} {M : qxM} {st : List Value} {ls : qxL} : Rs L xs (d) 71 15 ls st M x = Rs L xs (d) 71 17 ls (.int (nI 14) :: st) M x := Rs_next c71_15 rfl
theorem c71_17 : qx_code 71 17 = some (17, .if_icmp .ge 69, 20, 86, 0, 0) := by decide +kernel
theorem s71_17 {L : Nat} {xs : Nat → Int32} {d x : Nat} {M : qxM} {st : List Value} {ls : qxL} {z y : Int32} : Rs L xs (d) 71 17 ls (.int y :: .int z :: st) M x = if y ≤ z then Rs L xs (d) 71 86 ls st M x else Rs L xs (d) 71 20 ls st M x := Rs_ite c71_17 rfl
theorem c71_20 : qx_code 71 20 = some (20, .iload 6, 22, 0, 0, 0) := by decide +kernel
theorem s71_20 {L : Nat} {xs : Nat → Int32} {d x : Nat} {M : qxM} {st : List Value} {a0 a1 a2 a3 a4 a5 a7 a8 : Option Value} {z : Int32} : Rs L xs (d) 71 20 [a0, a1, a2, a3, a4, a5, some (.int z), a7, a8] st M x = Rs L xs (d) 71 22 [a0, a1, a2, a3, a4, a5, some (.int z), a7, a8] (.int z :: st) M x := Rs_next c71_20 rfl
theorem c71_22 : qx_code 71 22 = some (22, .iconst (-1), 23, 0, 0, 0) := by decide +kernel
theorem s71_22 {L : Nat} {xs : Nat → Int32} {d x : Nat} {M : qxM} {st : List Value} {ls : qxL} : Rs L xs (d) 71 22 ls st M x = Rs L xs (d) 71 23 ls (.int (-1) :: st) M x := Rs_next c71_22 rfl
theorem c71_23 : qx_code 71 23 = some (23, .if_icmp .eq 63, 26, 86, 0, 0) := by decide +kernel
theorem s71_23 {L : Nat} {xs : Nat → Int32} {d x : Nat} {M : qxM} {st : List Value} {ls : qxL} {z y : Int32} : Rs L xs (d) 71 23 ls (.int y :: .int z :: st) M x = if z = y then Rs L xs (d) 71 86 ls st M x else Rs L xs (d) 71 26 ls st M x := Rs_ite c71_23 rfl
theorem c71_26 : qx_code 71 26 = some (26, .iload 6, 28, 0, 0, 0) := by decide +kernel
theorem s71_26 {L : Nat} {xs : Nat → Int32} {d x : Nat} {M : qxM} {st : List Value} {a0 a1 a2 a3 a4 a5 a7 a8 : Option Value} {z : Int32} : Rs L xs (d) 71 26 [a0, a1, a2, a3, a4, a5, some (.int z), a7, a8] st M x = Rs L xs (d) 71 28 [a0, a1, a2, a3, a4, a5, some (.int z), a7, a8] (.int z :: st) M x := Rs_next c71_26 rfl
theorem c71_28 : qx_code 71 28 = some (28, .iload 4, 30, 0, 0, 0) := by decide +kernel
theorem s71_28 {L : Nat} {xs : Nat → Int32} {d x : Nat} {M : qxM} {st : List Value} {a0 a1 a2 a3 a5 a6 a7 a8 : Option Value} {z : Int32} : Rs L xs (d) 71 28 [a0, a1, a2, a3, some (.int z), a5, a6, a7, a8] st M x = Rs L xs (d) 71 30 [a0, a1, a2, a3, some (.int z), a5, a6, a7, a8] (.int z :: st) M x := Rs_next c71_28 rfl
theorem c71_30 : qx_code 71 30 = some (30, .if_icmp .eq 56, 33, 86, 0, 0) := by decide +kernel
theorem s71_30 {L : Nat} {xs : Nat → Int32} {d x : Nat} {M : qxM} {st : List Value} {ls : qxL} {z y : Int32} : Rs L xs (d) 71 30 ls (.int y :: .int z :: st) M x = if z = y then Rs L xs (d) 71 86 ls st M x else Rs L xs (d) 71 33 ls st M x := Rs_ite c71_30 rfl
theorem c71_33 : qx_code 71 33 = some (33, .aload_n 1, 34, 0, 0, 0) := by decide +kernel
theorem s71_33 {L : Nat} {xs : Nat → Int32} {d x : Nat} {M : qxM} {st : List Value} {a0 a2 a3 a4 a5 a6 a7 a8 : Option Value} {z : Nat} : Rs L xs (d) 71 33 [a0, some (.ref z), a2, a3, a4, a5, a6, a7, a8] st M x = Rs L xs (d) 71 34 [a0, some (.ref z), a2, a3, a4, a5, a6, a7, a8] (.ref z :: st) M x := Rs_next c71_33 rfl
theorem c71_34 : qx_code 71 34 = some (34, .iload 6, 36, 0, 0, 0) := by decide +kernel
theorem s71_34 {L : Nat} {xs : Nat → Int32} {d x : Nat} {M : qxM} {st : List Value} {a0 a1 a2 a3 a4 a5 a7 a8 : Option Value} {z : Int32} : Rs L xs (d) 71 34 [a0, a1, a2, a3, a4, a5, some (.int z), a7, a8] st M x = Rs L xs (d) 71 36 [a0, a1, a2, a3, a4, a5, some (.int z), a7, a8] (.int z :: st) M x := Rs_next c71_34 rfl
theorem c71_36 : qx_code 71 36 = some (36, .invokevirtual 141, 39, 46, 2, 1282) := by decide +kernel
theorem s71_36 {L : Nat} {xs : Nat → Int32} {d x : Nat} {M : qxM} {st : List Value} {ls : qxL} {t : Nat} {z0 : Int32} (hk : qx_kd t = 12) (hs : st.length ≤ 4) : Rs L xs (d + 1) 71 36 ls (.int z0 :: .ref t :: st) M x = (Rs L xs d 46 0 [some (.ref t), some (.int z0)] [] M 0).bind (qx_kn L xs (d + 1) 71 36 39 46 ls st x) := by
  have h1 : qx_act L xs (qx_rt 71) (36, .invokevirtual 141, 39, 46, 2, 1282) ls (.int z0 :: .ref t :: st) M = if 2 ≤ (.int z0 :: .ref t :: st).length ∧ st.length ≤ 4 then some (.inr (.inr (.inr (46, [.ref t, .int z0], st)))) else none := rfl
  rw [if_pos ⟨by simp [List.length_cons]; try omega, hs⟩] at h1
  have h2 := qx_kd_obj (k := 2) (by decide) hk
  exact Rs_call c71_36 h1 (by rw [show qx_args 46 [.ref t, .int z0] = decide (qx_sh t = some (.inl 2)) from rfl]; exact decide_eq_true h2)
theorem c71_39 : qx_code 71 39 = some (39, .istore 8, 41, 0, 0, 0) := by decide +kernel
theorem s71_39i {L : Nat} {xs : Nat → Int32} {d x : Nat} {M : qxM} {st : List Value} {a0 a1 a2 a3 a4 a5 a6 a8 : Option Value} {z : Int32} {y : Int32} : Rs L xs (d) 71 39 [a0, a1, a2, a3, a4, a5, a6, some (.int y), a8] (.int z :: st) M x = Rs L xs (d) 71 41 [a0, a1, a2, a3, a4, a5, a6, some (.int y), some (.int z)] st M x := Rs_next c71_39 rfl
theorem s71_39r {L : Nat} {xs : Nat → Int32} {d x : Nat} {M : qxM} {st : List Value} {a0 a1 a2 a3 a4 a5 a6 a8 : Option Value} {z : Int32} {y : Nat} : Rs L xs (d) 71 39 [a0, a1, a2, a3, a4, a5, a6, some (.ref y), a8] (.int z :: st) M x = Rs L xs (d) 71 41 [a0, a1, a2, a3, a4, a5, a6, some (.ref y), some (.int z)] st M x := Rs_next c71_39 rfl
theorem s71_39n {L : Nat} {xs : Nat → Int32} {d x : Nat} {M : qxM} {st : List Value} {a0 a1 a2 a3 a4 a5 a6 a8 : Option Value} {z : Int32} : Rs L xs (d) 71 39 [a0, a1, a2, a3, a4, a5, a6, none, a8] (.int z :: st) M x = Rs L xs (d) 71 41 [a0, a1, a2, a3, a4, a5, a6, none, some (.int z)] st M x := Rs_next c71_39 rfl
theorem c71_41 : qx_code 71 41 = some (41, .iload 5, 43, 0, 0, 0) := by decide +kernel
theorem s71_41 {L : Nat} {xs : Nat → Int32} {d x : Nat} {M : qxM} {st : List Value} {a0 a1 a2 a3 a4 a6 a7 a8 : Option Value} {z : Int32} : Rs L xs (d) 71 41 [a0, a1, a2, a3, a4, some (.int z), a6, a7, a8] st M x = Rs L xs (d) 71 43 [a0, a1, a2, a3, a4, some (.int z), a6, a7, a8] (.int z :: st) M x := Rs_next c71_41 rfl
theorem c71_43 : qx_code 71 43 = some (43, .iload 8, 45, 0, 0, 0) := by decide +kernel
theorem s71_43 {L : Nat} {xs : Nat → Int32} {d x : Nat} {M : qxM} {st : List Value} {a0 a1 a2 a3 a4 a5 a6 a7 : Option Value} {z : Int32} : Rs L xs (d) 71 43 [a0, a1, a2, a3, a4, a5, a6, a7, some (.int z)] st M x = Rs L xs (d) 71 45 [a0, a1, a2, a3, a4, a5, a6, a7, some (.int z)] (.int z :: st) M x := Rs_next c71_43 rfl
theorem c71_45 : qx_code 71 45 = some (45, .invokestatic 97, 48, 169, 1, 860) := by decide +kernel
theorem s71_45 {L : Nat} {xs : Nat → Int32} {d x : Nat} {M : qxM} {st : List Value} {ls : qxL} {z0 : Int32} (hs : st.length ≤ 4) : Rs L xs (d + 1) 71 45 ls (.int z0 :: st) M x = (Rs L xs d 169 0 [some (.int z0)] [] M 0).bind (qx_kn L xs (d + 1) 71 45 48 169 ls st x) := by
  have h1 : qx_act L xs (qx_rt 71) (45, .invokestatic 97, 48, 169, 1, 860) ls (.int z0 :: st) M = if 1 ≤ (.int z0 :: st).length ∧ st.length ≤ 4 then some (.inr (.inr (.inr (169, [.int z0], st)))) else none := rfl
  rw [if_pos ⟨by simp [List.length_cons]; try omega, hs⟩] at h1
  exact Rs_call c71_45 h1 rfl
theorem c71_48 : qx_code 71 48 = some (48, .ior, 49, 0, 0, 0) := by decide +kernel
theorem s71_48 {L : Nat} {xs : Nat → Int32} {d x : Nat} {M : qxM} {st : List Value} {ls : qxL} {z y : Int32} : Rs L xs (d) 71 48 ls (.int y :: .int z :: st) M x = Rs L xs (d) 71 49 ls (.int (z ||| y) :: st) M x := Rs_next c71_48 rfl
theorem c71_49 : qx_code 71 49 = some (49, .istore 5, 51, 0, 0, 0) := by decide +kernel
theorem s71_49i {L : Nat} {xs : Nat → Int32} {d x : Nat} {M : qxM} {st : List Value} {a0 a1 a2 a3 a5 a6 a7 a8 : Option Value} {z : Int32} {y : Int32} : Rs L xs (d) 71 49 [a0, a1, a2, a3, some (.int y), a5, a6, a7, a8] (.int z :: st) M x = Rs L xs (d) 71 51 [a0, a1, a2, a3, some (.int y), some (.int z), a6, a7, a8] st M x := Rs_next c71_49 rfl
theorem s71_49r {L : Nat} {xs : Nat → Int32} {d x : Nat} {M : qxM} {st : List Value} {a0 a1 a2 a3 a5 a6 a7 a8 : Option Value} {z : Int32} {y : Nat} : Rs L xs (d) 71 49 [a0, a1, a2, a3, some (.ref y), a5, a6, a7, a8] (.int z :: st) M x = Rs L xs (d) 71 51 [a0, a1, a2, a3, some (.ref y), some (.int z), a6, a7, a8] st M x := Rs_next c71_49 rfl
theorem s71_49n {L : Nat} {xs : Nat → Int32} {d x : Nat} {M : qxM} {st : List Value} {a0 a1 a2 a3 a5 a6 a7 a8 : Option Value} {z : Int32} : Rs L xs (d) 71 49 [a0, a1, a2, a3, none, a5, a6, a7, a8] (.int z :: st) M x = Rs L xs (d) 71 51 [a0, a1, a2, a3, none, some (.int z), a6, a7, a8] st M x := Rs_next c71_49 rfl
theorem c71_51 : qx_code 71 51 = some (51, .aload_n 0, 52, 0, 0, 0) := by decide +kernel
theorem s71_51 {L : Nat} {xs : Nat → Int32} {d x : Nat} {M : qxM} {st : List Value} {a1 a2 a3 a4 a5 a6 a7 a8 : Option Value} {z : Nat} : Rs L xs (d) 71 51 [some (.ref z), a1, a2, a3, a4, a5, a6, a7, a8] st M x = Rs L xs (d) 71 52 [some (.ref z), a1, a2, a3, a4, a5, a6, a7, a8] (.ref z :: st) M x := Rs_next c71_51 rfl
theorem c71_52 : qx_code 71 52 = some (52, .getfield 21, 55, 3, 12, 318) := by decide +kernel
theorem s71_52 {L : Nat} {xs : Nat → Int32} {d x : Nat} {M : qxM} {st : List Value} {ls : qxL} {t : Nat} (hk : qx_kd t = 13) : Rs L xs (d) 71 52 ls (.ref t :: st) M x = Rs L xs (d) 71 55 ls (.ref (t + 4) :: st) M x := Rs_when (qx_kd_obj (k := 3) (by decide) hk) c71_52 rfl
theorem c71_55 : qx_code 71 55 = some (55, .iload 8, 57, 0, 0, 0) := by decide +kernel
theorem s71_55 {L : Nat} {xs : Nat → Int32} {d x : Nat} {M : qxM} {st : List Value} {a0 a1 a2 a3 a4 a5 a6 a7 : Option Value} {z : Int32} : Rs L xs (d) 71 55 [a0, a1, a2, a3, a4, a5, a6, a7, some (.int z)] st M x = Rs L xs (d) 71 57 [a0, a1, a2, a3, a4, a5, a6, a7, some (.int z)] (.int z :: st) M x := Rs_next c71_55 rfl
theorem c71_57 : qx_code 71 57 = some (57, .iload_n 2, 58, 0, 0, 0) := by decide +kernel
theorem s71_57 {L : Nat} {xs : Nat → Int32} {d x : Nat} {M : qxM} {st : List Value} {a0 a1 a3 a4 a5 a6 a7 a8 : Option Value} {z : Int32} : Rs L xs (d) 71 57 [a0, a1, some (.int z), a3, a4, a5, a6, a7, a8] st M x = Rs L xs (d) 71 58 [a0, a1, some (.int z), a3, a4, a5, a6, a7, a8] (.int z :: st) M x := Rs_next c71_57 rfl
theorem c71_58 : qx_code 71 58 = some (58, .invokestatic 62, 61, 174, 3, 1241) := by decide +kernel
theorem s71_58 {L : Nat} {xs : Nat → Int32} {d x : Nat} {M : qxM} {st : List Value} {ls : qxL} {z0 : Nat} {z1 : Int32} {z2 : Int32} (hs : st.length ≤ 4) : Rs L xs (d + 1) 71 58 ls (.int z2 :: .int z1 :: .ref z0 :: st) M x = (Rs L xs d 174 0 [some (.ref z0), some (.int z1), some (.int z2)] [] M 0).bind (qx_kn L xs (d + 1) 71 58 61 174 ls st x) := by
  have h1 : qx_act L xs (qx_rt 71) (58, .invokestatic 62, 61, 174, 3, 1241) ls (.int z2 :: .int z1 :: .ref z0 :: st) M = if 3 ≤ (.int z2 :: .int z1 :: .ref z0 :: st).length ∧ st.length ≤ 4 then some (.inr (.inr (.inr (174, [.ref z0, .int z1, .int z2], st)))) else none := rfl
  rw [if_pos ⟨by simp [List.length_cons]; try omega, hs⟩] at h1
  exact Rs_call c71_58 h1 rfl
theorem c71_61 : qx_code 71 61 = some (61, .aload_n 0, 62, 0, 0, 0) := by decide +kernel
theorem s71_61 {L : Nat} {xs : Nat → Int32} {d x : Nat} {M : qxM} {st : List Value} {a1 a2 a3 a4 a5 a6 a7 a8 : Option Value} {z : Nat} : Rs L xs (d) 71 61 [some (.ref z), a1, a2, a3, a4, a5, a6, a7, a8] st M x = Rs L xs (d) 71 62 [some (.ref z), a1, a2, a3, a4, a5, a6, a7, a8] (.ref z :: st) M x := Rs_next c71_61 rfl
theorem c71_62 : qx_code 71 62 = some (62, .getfield 24, 65, 3, 13, 320) := by decide +kernel
theorem s71_62 {L : Nat} {xs : Nat → Int32} {d x : Nat} {M : qxM} {st : List Value} {ls : qxL} {t : Nat} (hk : qx_kd t = 13) : Rs L xs (d) 71 62 ls (.ref t :: st) M x = Rs L xs (d) 71 65 ls (.ref (t + 5) :: st) M x := Rs_when (qx_kd_obj (k := 3) (by decide) hk) c71_62 rfl
theorem c71_65 : qx_code 71 65 = some (65, .iload 8, 67, 0, 0, 0) := by decide +kernel
theorem s71_65 {L : Nat} {xs : Nat → Int32} {d x : Nat} {M : qxM} {st : List Value} {a0 a1 a2 a3 a4 a5 a6 a7 : Option Value} {z : Int32} : Rs L xs (d) 71 65 [a0, a1, a2, a3, a4, a5, a6, a7, some (.int z)] st M x = Rs L xs (d) 71 67 [a0, a1, a2, a3, a4, a5, a6, a7, some (.int z)] (.int z :: st) M x := Rs_next c71_65 rfl
theorem c71_67 : qx_code 71 67 = some (67, .iload_n 3, 68, 0, 0, 0) := by decide +kernel
theorem s71_67 {L : Nat} {xs : Nat → Int32} {d x : Nat} {M : qxM} {st : List Value} {a0 a1 a2 a4 a5 a6 a7 a8 : Option Value} {z : Int32} : Rs L xs (d) 71 67 [a0, a1, a2, some (.int z), a4, a5, a6, a7, a8] st M x = Rs L xs (d) 71 68 [a0, a1, a2, some (.int z), a4, a5, a6, a7, a8] (.int z :: st) M x := Rs_next c71_67 rfl
theorem c71_68 : qx_code 71 68 = some (68, .invokestatic 62, 71, 174, 3, 1241) := by decide +kernel
theorem s71_68 {L : Nat} {xs : Nat → Int32} {d x : Nat} {M : qxM} {st : List Value} {ls : qxL} {z0 : Nat} {z1 : Int32} {z2 : Int32} (hs : st.length ≤ 4) : Rs L xs (d + 1) 71 68 ls (.int z2 :: .int z1 :: .ref z0 :: st) M x = (Rs L xs d 174 0 [some (.ref z0), some (.int z1), some (.int z2)] [] M 0).bind (qx_kn L xs (d + 1) 71 68 71 174 ls st x) := by
  have h1 : qx_act L xs (qx_rt 71) (68, .invokestatic 62, 71, 174, 3, 1241) ls (.int z2 :: .int z1 :: .ref z0 :: st) M = if 3 ≤ (.int z2 :: .int z1 :: .ref z0 :: st).length ∧ st.length ≤ 4 then some (.inr (.inr (.inr (174, [.ref z0, .int z1, .int z2], st)))) else none := rfl
  rw [if_pos ⟨by simp [List.length_cons]; try omega, hs⟩] at h1
  exact Rs_call c71_68 h1 rfl
theorem c71_71 : qx_code 71 71 = some (71, .aload_n 0, 72, 0, 0, 0) := by decide +kernel
theorem s71_71 {L : Nat} {xs : Nat → Int32} {d x : Nat} {M : qxM} {st : List Value} {a1 a2 a3 a4 a5 a6 a7 a8 : Option Value} {z : Nat} : Rs L xs (d) 71 71 [some (.ref z), a1, a2, a3, a4, a5, a6, a7, a8] st M x = Rs L xs (d) 71 72 [some (.ref z), a1, a2, a3, a4, a5, a6, a7, a8] (.ref z :: st) M x := Rs_next c71_71 rfl
theorem c71_72 : qx_code 71 72 = some (72, .aload_n 1, 73, 0, 0, 0) := by decide +kernel
theorem s71_72 {L : Nat} {xs : Nat → Int32} {d x : Nat} {M : qxM} {st : List Value} {a0 a2 a3 a4 a5 a6 a7 a8 : Option Value} {z : Nat} : Rs L xs (d) 71 72 [a0, some (.ref z), a2, a3, a4, a5, a6, a7, a8] st M x = Rs L xs (d) 71 73 [a0, some (.ref z), a2, a3, a4, a5, a6, a7, a8] (.ref z :: st) M x := Rs_next c71_72 rfl
theorem c71_73 : qx_code 71 73 = some (73, .iload 6, 75, 0, 0, 0) := by decide +kernel
theorem s71_73 {L : Nat} {xs : Nat → Int32} {d x : Nat} {M : qxM} {st : List Value} {a0 a1 a2 a3 a4 a5 a7 a8 : Option Value} {z : Int32} : Rs L xs (d) 71 73 [a0, a1, a2, a3, a4, a5, some (.int z), a7, a8] st M x = Rs L xs (d) 71 75 [a0, a1, a2, a3, a4, a5, some (.int z), a7, a8] (.int z :: st) M x := Rs_next c71_73 rfl
theorem c71_75 : qx_code 71 75 = some (75, .invokevirtual 165, 78, 69, 3, 1278) := by decide +kernel
theorem s71_75 {L : Nat} {xs : Nat → Int32} {d x : Nat} {M : qxM} {st : List Value} {ls : qxL} {t : Nat} {z0 : Nat} {z1 : Int32} (hk : qx_kd t = 13) (hs : st.length ≤ 4) : Rs L xs (d + 1) 71 75 ls (.int z1 :: .ref z0 :: .ref t :: st) M x = (Rs L xs d 69 0 [some (.ref t), some (.ref z0), some (.int z1)] [] M 0).bind (qx_kn L xs (d + 1) 71 75 78 69 ls st x) := by
  have h1 : qx_act L xs (qx_rt 71) (75, .invokevirtual 165, 78, 69, 3, 1278) ls (.int z1 :: .ref z0 :: .ref t :: st) M = if 3 ≤ (.int z1 :: .ref z0 :: .ref t :: st).length ∧ st.length ≤ 4 then some (.inr (.inr (.inr (69, [.ref t, .ref z0, .int z1], st)))) else none := rfl
  rw [if_pos ⟨by simp [List.length_cons]; try omega, hs⟩] at h1
  have h2 := qx_kd_obj (k := 3) (by decide) hk
  exact Rs_call c71_75 h1 (by rw [show qx_args 69 [.ref t, .ref z0, .int z1] = decide (qx_sh t = some (.inl 3)) from rfl]; exact decide_eq_true h2)
theorem c71_78 : qx_code 71 78 = some (78, .istore 6, 80, 0, 0, 0) := by decide +kernel
theorem s71_78i {L : Nat} {xs : Nat → Int32} {d x : Nat} {M : qxM} {st : List Value} {a0 a1 a2 a3 a4 a6 a7 a8 : Option Value} {z : Int32} {y : Int32} : Rs L xs (d) 71 78 [a0, a1, a2, a3, a4, some (.int y), a6, a7, a8] (.int z :: st) M x = Rs L xs (d) 71 80 [a0, a1, a2, a3, a4, some (.int y), some (.int z), a7, a8] st M x := Rs_next c71_78 rfl
theorem s71_78r {L : Nat} {xs : Nat → Int32} {d x : Nat} {M : qxM} {st : List Value} {a0 a1 a2 a3 a4 a6 a7 a8 : Option Value} {z : Int32} {y : Nat} : Rs L xs (d) 71 78 [a0, a1, a2, a3, a4, some (.ref y), a6, a7, a8] (.int z :: st) M x = Rs L xs (d) 71 80 [a0, a1, a2, a3, a4, some (.ref y), some (.int z), a7, a8] st M x := Rs_next c71_78 rfl
theorem s71_78n {L : Nat} {xs : Nat → Int32} {d x : Nat} {M : qxM} {st : List Value} {a0 a1 a2 a3 a4 a6 a7 a8 : Option Value} {z : Int32} : Rs L xs (d) 71 78 [a0, a1, a2, a3, a4, none, a6, a7, a8] (.int z :: st) M x = Rs L xs (d) 71 80 [a0, a1, a2, a3, a4, none, some (.int z), a7, a8] st M x := Rs_next c71_78 rfl
theorem c71_80 : qx_code 71 80 = some (80, .iinc 7 1, 83, 0, 0, 0) := by decide +kernel
theorem s71_80i {L : Nat} {xs : Nat → Int32} {d x : Nat} {M : qxM} {st : List Value} {a0 a1 a2 a3 a4 a5 a8 : Option Value} {z : Int32} {y : Int32} : Rs L xs (d) 71 80 [a0, a1, a2, a3, a4, a5, some (.int y), some (.int z), a8] st M x = Rs L xs (d) 71 83 [a0, a1, a2, a3, a4, a5, some (.int y), some (.int (z + (nI 1))), a8] st M x := Rs_next c71_80 rfl
theorem s71_80r {L : Nat} {xs : Nat → Int32} {d x : Nat} {M : qxM} {st : List Value} {a0 a1 a2 a3 a4 a5 a8 : Option Value} {z : Int32} {y : Nat} : Rs L xs (d) 71 80 [a0, a1, a2, a3, a4, a5, some (.ref y), some (.int z), a8] st M x = Rs L xs (d) 71 83 [a0, a1, a2, a3, a4, a5, some (.ref y), some (.int (z + (nI 1))), a8] st M x := Rs_next c71_80 rfl
theorem s71_80n {L : Nat} {xs : Nat → Int32} {d x : Nat} {M : qxM} {st : List Value} {a0 a1 a2 a3 a4 a5 a8 : Option Value} {z : Int32} : Rs L xs (d) 71 80 [a0, a1, a2, a3, a4, a5, none, some (.int z), a8] st M x = Rs L xs (d) 71 83 [a0, a1, a2, a3, a4, a5, none, some (.int (z + (nI 1))), a8] st M x := Rs_next c71_80 rfl
theorem c71_83 : qx_code 71 83 = some (83, .goto (-70), 86, 13, 0, 0) := by decide +kernel
theorem s71_83 {L : Nat} {xs : Nat → Int32} {d x : Nat} {M : qxM} {st : List Value} {ls : qxL} : Rs L xs (d) 71 83 ls st M x = Rs L xs (d) 71 13 ls st M x := Rs_next c71_83 rfl
theorem c71_86 : qx_code 71 86 = some (86, .iload 5, 88, 0, 0, 0) := by decide +kernel
theorem s71_86 {L : Nat} {xs : Nat → Int32} {d x : Nat} {M : qxM} {st : List Value} {a0 a1 a2 a3 a4 a6 a7 a8 : Option Value} {z : Int32} : Rs L xs (d) 71 86 [a0, a1, a2, a3, a4, some (.int z), a6, a7, a8] st M x = Rs L xs (d) 71 88 [a0, a1, a2, a3, a4, some (.int z), a6, a7, a8] (.int z :: st) M x := Rs_next c71_86 rfl
theorem c71_88 : qx_code 71 88 = some (88, .ireturn, 89, 0, 0, 0) := by decide +kernel
theorem s71_88 {L : Nat} {xs : Nat → Int32} {d x : Nat} {M : qxM} {ls : qxL} {z : Int32} : Rs L xs (d) 71 88 ls [.int z] M x = some (.inl (some (.int z)), M, x) := Rs_ret c71_88 rfl
theorem c72_0 : qx_code 72 0 = some (0, .aload_n 0, 1, 0, 0, 0) := by decide +kernel
theorem s72_0 {L : Nat} {xs : Nat → Int32} {d x : Nat} {M : qxM} {st : List Value} {a1 a2 a3 a4 a5 a6 : Option Value} {z : Nat} : Rs L xs (d) 72 0 [some (.ref z), a1, a2, a3, a4, a5, a6] st M x = Rs L xs (d) 72 1 [some (.ref z), a1, a2, a3, a4, a5, a6] (.ref z :: st) M x := Rs_next c72_0 rfl
theorem c72_1 : qx_code 72 1 = some (1, .iload_n 3, 2, 0, 0, 0) := by decide +kernel
theorem s72_1 {L : Nat} {xs : Nat → Int32} {d x : Nat} {M : qxM} {st : List Value} {a0 a1 a2 a4 a5 a6 : Option Value} {z : Int32} : Rs L xs (d) 72 1 [a0, a1, a2, some (.int z), a4, a5, a6] st M x = Rs L xs (d) 72 2 [a0, a1, a2, some (.int z), a4, a5, a6] (.int z :: st) M x := Rs_next c72_1 rfl
theorem c72_2 : qx_code 72 2 = some (2, .invokevirtual 169, 5, 59, 2, 1291) := by decide +kernel
theorem s72_2 {L : Nat} {xs : Nat → Int32} {d x : Nat} {M : qxM} {st : List Value} {ls : qxL} {t : Nat} {z0 : Int32} (hk : qx_kd t = 13) (hs : st.length ≤ 4) : Rs L xs (d + 1) 72 2 ls (.int z0 :: .ref t :: st) M x = (Rs L xs d 59 0 [some (.ref t), some (.int z0), none, none] [] M 0).bind (qx_kn L xs (d + 1) 72 2 5 59 ls st x) := by
  have h1 : qx_act L xs (qx_rt 72) (2, .invokevirtual 169, 5, 59, 2, 1291) ls (.int z0 :: .ref t :: st) M = if 2 ≤ (.int z0 :: .ref t :: st).length ∧ st.length ≤ 4 then some (.inr (.inr (.inr (59, [.ref t, .int z0], st)))) else none := rfl
  rw [if_pos ⟨by simp [List.length_cons]; try omega, hs⟩] at h1
  have h2 := qx_kd_obj (k := 3) (by decide) hk
  exact Rs_call c72_2 h1 (by rw [show qx_args 59 [.ref t, .int z0] = decide (qx_sh t = some (.inl 3)) from rfl]; exact decide_eq_true h2)
theorem c72_5 : qx_code 72 5 = some (5, .istore 4, 7, 0, 0, 0) := by decide +kernel
theorem s72_5i {L : Nat} {xs : Nat → Int32} {d x : Nat} {M : qxM} {st : List Value} {a0 a1 a2 a4 a5 a6 : Option Value} {z : Int32} {y : Int32} : Rs L xs (d) 72 5 [a0, a1, a2, some (.int y), a4, a5, a6] (.int z :: st) M x = Rs L xs (d) 72 7 [a0, a1, a2, some (.int y), some (.int z), a5, a6] st M x := Rs_next c72_5 rfl
theorem s72_5r {L : Nat} {xs : Nat → Int32} {d x : Nat} {M : qxM} {st : List Value} {a0 a1 a2 a4 a5 a6 : Option Value} {z : Int32} {y : Nat} : Rs L xs (d) 72 5 [a0, a1, a2, some (.ref y), a4, a5, a6] (.int z :: st) M x = Rs L xs (d) 72 7 [a0, a1, a2, some (.ref y), some (.int z), a5, a6] st M x := Rs_next c72_5 rfl
theorem s72_5n {L : Nat} {xs : Nat → Int32} {d x : Nat} {M : qxM} {st : List Value} {a0 a1 a2 a4 a5 a6 : Option Value} {z : Int32} : Rs L xs (d) 72 5 [a0, a1, a2, none, a4, a5, a6] (.int z :: st) M x = Rs L xs (d) 72 7 [a0, a1, a2, none, some (.int z), a5, a6] st M x := Rs_next c72_5 rfl
theorem c72_7 : qx_code 72 7 = some (7, .aload_n 0, 8, 0, 0, 0) := by decide +kernel
theorem s72_7 {L : Nat} {xs : Nat → Int32} {d x : Nat} {M : qxM} {st : List Value} {a1 a2 a3 a4 a5 a6 : Option Value} {z : Nat} : Rs L xs (d) 72 7 [some (.ref z), a1, a2, a3, a4, a5, a6] st M x = Rs L xs (d) 72 8 [some (.ref z), a1, a2, a3, a4, a5, a6] (.ref z :: st) M x := Rs_next c72_7 rfl
theorem c72_8 : qx_code 72 8 = some (8, .iload_n 2, 9, 0, 0, 0) := by decide +kernel
theorem s72_8 {L : Nat} {xs : Nat → Int32} {d x : Nat} {M : qxM} {st : List Value} {a0 a1 a3 a4 a5 a6 : Option Value} {z : Int32} : Rs L xs (d) 72 8 [a0, a1, some (.int z), a3, a4, a5, a6] st M x = Rs L xs (d) 72 9 [a0, a1, some (.int z), a3, a4, a5, a6] (.int z :: st) M x := Rs_next c72_8 rfl
theorem c72_9 : qx_code 72 9 = some (9, .invokevirtual 93, 12, 58, 2, 859) := by decide +kernel
theorem s72_9 {L : Nat} {xs : Nat → Int32} {d x : Nat} {M : qxM} {st : List Value} {ls : qxL} {t : Nat} {z0 : Int32} (hk : qx_kd t = 13) (hs : st.length ≤ 4) : Rs L xs (d + 1) 72 9 ls (.int z0 :: .ref t :: st) M x = (Rs L xs d 58 0 [some (.ref t), some (.int z0)] [] M 0).bind (qx_kn L xs (d + 1) 72 9 12 58 ls st x) := by
  have h1 : qx_act L xs (qx_rt 72) (9, .invokevirtual 93, 12, 58, 2, 859) ls (.int z0 :: .ref t :: st) M = if 2 ≤ (.int z0 :: .ref t :: st).length ∧ st.length ≤ 4 then some (.inr (.inr (.inr (58, [.ref t, .int z0], st)))) else none := rfl
  rw [if_pos ⟨by simp [List.length_cons]; try omega, hs⟩] at h1
  have h2 := qx_kd_obj (k := 3) (by decide) hk
  exact Rs_call c72_9 h1 (by rw [show qx_args 58 [.ref t, .int z0] = decide (qx_sh t = some (.inl 3)) from rfl]; exact decide_eq_true h2)
theorem c72_12 : qx_code 72 12 = some (12, .istore 5, 14, 0, 0, 0) := by decide +kernel
theorem s72_12i {L : Nat} {xs : Nat → Int32} {d x : Nat} {M : qxM} {st : List Value} {a0 a1 a2 a3 a5 a6 : Option Value} {z : Int32} {y : Int32} : Rs L xs (d) 72 12 [a0, a1, a2, a3, some (.int y), a5, a6] (.int z :: st) M x = Rs L xs (d) 72 14 [a0, a1, a2, a3, some (.int y), some (.int z), a6] st M x := Rs_next c72_12 rfl
theorem s72_12r {L : Nat} {xs : Nat → Int32} {d x : Nat} {M : qxM} {st : List Value} {a0 a1 a2 a3 a5 a6 : Option Value} {z : Int32} {y : Nat} : Rs L xs (d) 72 12 [a0, a1, a2, a3, some (.ref y), a5, a6] (.int z :: st) M x = Rs L xs (d) 72 14 [a0, a1, a2, a3, some (.ref y), some (.int z), a6] st M x := Rs_next c72_12 rfl
theorem s72_12n {L : Nat} {xs : Nat → Int32} {d x : Nat} {M : qxM} {st : List Value} {a0 a1 a2 a3 a5 a6 : Option Value} {z : Int32} : Rs L xs (d) 72 12 [a0, a1, a2, a3, none, a5, a6] (.int z :: st) M x = Rs L xs (d) 72 14 [a0, a1, a2, a3, none, some (.int z), a6] st M x := Rs_next c72_12 rfl
theorem c72_14 : qx_code 72 14 = some (14, .iconst 0, 15, 0, 0, 0) := by decide +kernel
theorem s72_14 {L : Nat} {xs : Nat → Int32} {d x : Nat} {M : qxM} {st : List Value} {ls : qxL} : Rs L xs (d) 72 14 ls st M x = Rs L xs (d) 72 15 ls (.int (nI 0) :: st) M x := Rs_next c72_14 rfl
theorem c72_15 : qx_code 72 15 = some (15, .istore 6, 17, 0, 0, 0) := by decide +kernel
theorem s72_15i {L : Nat} {xs : Nat → Int32} {d x : Nat} {M : qxM} {st : List Value} {a0 a1 a2 a3 a4 a6 : Option Value} {z : Int32} {y : Int32} : Rs L xs (d) 72 15 [a0, a1, a2, a3, a4, some (.int y), a6] (.int z :: st) M x = Rs L xs (d) 72 17 [a0, a1, a2, a3, a4, some (.int y), some (.int z)] st M x := Rs_next c72_15 rfl
theorem s72_15r {L : Nat} {xs : Nat → Int32} {d x : Nat} {M : qxM} {st : List Value} {a0 a1 a2 a3 a4 a6 : Option Value} {z : Int32} {y : Nat} : Rs L xs (d) 72 15 [a0, a1, a2, a3, a4, some (.ref y), a6] (.int z :: st) M x = Rs L xs (d) 72 17 [a0, a1, a2, a3, a4, some (.ref y), some (.int z)] st M x := Rs_next c72_15 rfl
theorem s72_15n {L : Nat} {xs : Nat → Int32} {d x : Nat} {M : qxM} {st : List Value} {a0 a1 a2 a3 a4 a6 : Option Value} {z : Int32} : Rs L xs (d) 72 15 [a0, a1, a2, a3, a4, none, a6] (.int z :: st) M x = Rs L xs (d) 72 17 [a0, a1, a2, a3, a4, none, some (.int z)] st M x := Rs_next c72_15 rfl
theorem c72_17 : qx_code 72 17 = some (17, .iload 6, 19, 0, 0, 0) := by decide +kernel
theorem s72_17 {L : Nat} {xs : Nat → Int32} {d x : Nat} {M : qxM} {st : List Value} {a0 a1 a2 a3 a4 a5 : Option Value} {z : Int32} : Rs L xs (d) 72 17 [a0, a1, a2, a3, a4, a5, some (.int z)] st M x = Rs L xs (d) 72 19 [a0, a1, a2, a3, a4, a5, some (.int z)] (.int z :: st) M x := Rs_next c72_17 rfl
theorem c72_19 : qx_code 72 19 = some (19, .bipush 14, 21, 0, 0, 0) := by decide +kernel
theorem s72_19 {L : Nat} {xs : Nat → Int32} {d x : Nat} {M : qxM} {st : List Value} {ls : qxL} : Rs L xs (d) 72 19 ls st M x = Rs L xs (d) 72 21 ls (.int (nI 14) :: st) M x := Rs_next c72_19 rfl
theorem c72_21 : qx_code 72 21 = some (21, .if_icmp .ge 41, 24, 62, 0, 0) := by decide +kernel
theorem s72_21 {L : Nat} {xs : Nat → Int32} {d x : Nat} {M : qxM} {st : List Value} {ls : qxL} {z y : Int32} : Rs L xs (d) 72 21 ls (.int y :: .int z :: st) M x = if y ≤ z then Rs L xs (d) 72 62 ls st M x else Rs L xs (d) 72 24 ls st M x := Rs_ite c72_21 rfl
theorem c72_24 : qx_code 72 24 = some (24, .iload 5, 26, 0, 0, 0) := by decide +kernel
theorem s72_24 {L : Nat} {xs : Nat → Int32} {d x : Nat} {M : qxM} {st : List Value} {a0 a1 a2 a3 a4 a6 : Option Value} {z : Int32} : Rs L xs (d) 72 24 [a0, a1, a2, a3, a4, some (.int z), a6] st M x = Rs L xs (d) 72 26 [a0, a1, a2, a3, a4, some (.int z), a6] (.int z :: st) M x := Rs_next c72_24 rfl
theorem c72_26 : qx_code 72 26 = some (26, .iconst (-1), 27, 0, 0, 0) := by decide +kernel
theorem s72_26 {L : Nat} {xs : Nat → Int32} {d x : Nat} {M : qxM} {st : List Value} {ls : qxL} : Rs L xs (d) 72 26 ls st M x = Rs L xs (d) 72 27 ls (.int (-1) :: st) M x := Rs_next c72_26 rfl
theorem c72_27 : qx_code 72 27 = some (27, .if_icmp .eq 35, 30, 62, 0, 0) := by decide +kernel
theorem s72_27 {L : Nat} {xs : Nat → Int32} {d x : Nat} {M : qxM} {st : List Value} {ls : qxL} {z y : Int32} : Rs L xs (d) 72 27 ls (.int y :: .int z :: st) M x = if z = y then Rs L xs (d) 72 62 ls st M x else Rs L xs (d) 72 30 ls st M x := Rs_ite c72_27 rfl
theorem c72_30 : qx_code 72 30 = some (30, .iload 5, 32, 0, 0, 0) := by decide +kernel
theorem s72_30 {L : Nat} {xs : Nat → Int32} {d x : Nat} {M : qxM} {st : List Value} {a0 a1 a2 a3 a4 a6 : Option Value} {z : Int32} : Rs L xs (d) 72 30 [a0, a1, a2, a3, a4, some (.int z), a6] st M x = Rs L xs (d) 72 32 [a0, a1, a2, a3, a4, some (.int z), a6] (.int z :: st) M x := Rs_next c72_30 rfl
theorem c72_32 : qx_code 72 32 = some (32, .iload_n 3, 33, 0, 0, 0) := by decide +kernel
theorem s72_32 {L : Nat} {xs : Nat → Int32} {d x : Nat} {M : qxM} {st : List Value} {a0 a1 a2 a4 a5 a6 : Option Value} {z : Int32} : Rs L xs (d) 72 32 [a0, a1, a2, some (.int z), a4, a5, a6] st M x = Rs L xs (d) 72 33 [a0, a1, a2, some (.int z), a4, a5, a6] (.int z :: st) M x := Rs_next c72_32 rfl
theorem c72_33 : qx_code 72 33 = some (33, .if_icmp .eq 29, 36, 62, 0, 0) := by decide +kernel
theorem s72_33 {L : Nat} {xs : Nat → Int32} {d x : Nat} {M : qxM} {st : List Value} {ls : qxL} {z y : Int32} : Rs L xs (d) 72 33 ls (.int y :: .int z :: st) M x = if z = y then Rs L xs (d) 72 62 ls st M x else Rs L xs (d) 72 36 ls st M x := Rs_ite c72_33 rfl
theorem c72_36 : qx_code 72 36 = some (36, .iload 4, 38, 0, 0, 0) := by decide +kernel
theorem s72_36 {L : Nat} {xs : Nat → Int32} {d x : Nat} {M : qxM} {st : List Value} {a0 a1 a2 a3 a5 a6 : Option Value} {z : Int32} : Rs L xs (d) 72 36 [a0, a1, a2, a3, some (.int z), a5, a6] st M x = Rs L xs (d) 72 38 [a0, a1, a2, a3, some (.int z), a5, a6] (.int z :: st) M x := Rs_next c72_36 rfl
theorem c72_38 : qx_code 72 38 = some (38, .aload_n 0, 39, 0, 0, 0) := by decide +kernel
theorem s72_38 {L : Nat} {xs : Nat → Int32} {d x : Nat} {M : qxM} {st : List Value} {a1 a2 a3 a4 a5 a6 : Option Value} {z : Nat} : Rs L xs (d) 72 38 [some (.ref z), a1, a2, a3, a4, a5, a6] st M x = Rs L xs (d) 72 39 [some (.ref z), a1, a2, a3, a4, a5, a6] (.ref z :: st) M x := Rs_next c72_38 rfl
theorem c72_39 : qx_code 72 39 = some (39, .iload 5, 41, 0, 0, 0) := by decide +kernel
theorem s72_39 {L : Nat} {xs : Nat → Int32} {d x : Nat} {M : qxM} {st : List Value} {a0 a1 a2 a3 a4 a6 : Option Value} {z : Int32} : Rs L xs (d) 72 39 [a0, a1, a2, a3, a4, some (.int z), a6] st M x = Rs L xs (d) 72 41 [a0, a1, a2, a3, a4, some (.int z), a6] (.int z :: st) M x := Rs_next c72_39 rfl
theorem c72_41 : qx_code 72 41 = some (41, .invokevirtual 169, 44, 59, 2, 1291) := by decide +kernel
theorem s72_41 {L : Nat} {xs : Nat → Int32} {d x : Nat} {M : qxM} {st : List Value} {ls : qxL} {t : Nat} {z0 : Int32} (hk : qx_kd t = 13) (hs : st.length ≤ 4) : Rs L xs (d + 1) 72 41 ls (.int z0 :: .ref t :: st) M x = (Rs L xs d 59 0 [some (.ref t), some (.int z0), none, none] [] M 0).bind (qx_kn L xs (d + 1) 72 41 44 59 ls st x) := by
  have h1 : qx_act L xs (qx_rt 72) (41, .invokevirtual 169, 44, 59, 2, 1291) ls (.int z0 :: .ref t :: st) M = if 2 ≤ (.int z0 :: .ref t :: st).length ∧ st.length ≤ 4 then some (.inr (.inr (.inr (59, [.ref t, .int z0], st)))) else none := rfl
  rw [if_pos ⟨by simp [List.length_cons]; try omega, hs⟩] at h1
  have h2 := qx_kd_obj (k := 3) (by decide) hk
  exact Rs_call c72_41 h1 (by rw [show qx_args 59 [.ref t, .int z0] = decide (qx_sh t = some (.inl 3)) from rfl]; exact decide_eq_true h2)
theorem c72_44 : qx_code 72 44 = some (44, .ior, 45, 0, 0, 0) := by decide +kernel
theorem s72_44 {L : Nat} {xs : Nat → Int32} {d x : Nat} {M : qxM} {st : List Value} {ls : qxL} {z y : Int32} : Rs L xs (d) 72 44 ls (.int y :: .int z :: st) M x = Rs L xs (d) 72 45 ls (.int (z ||| y) :: st) M x := Rs_next c72_44 rfl
theorem c72_45 : qx_code 72 45 = some (45, .istore 4, 47, 0, 0, 0) := by decide +kernel
theorem s72_45i {L : Nat} {xs : Nat → Int32} {d x : Nat} {M : qxM} {st : List Value} {a0 a1 a2 a4 a5 a6 : Option Value} {z : Int32} {y : Int32} : Rs L xs (d) 72 45 [a0, a1, a2, some (.int y), a4, a5, a6] (.int z :: st) M x = Rs L xs (d) 72 47 [a0, a1, a2, some (.int y), some (.int z), a5, a6] st M x := Rs_next c72_45 rfl
theorem s72_45r {L : Nat} {xs : Nat → Int32} {d x : Nat} {M : qxM} {st : List Value} {a0 a1 a2 a4 a5 a6 : Option Value} {z : Int32} {y : Nat} : Rs L xs (d) 72 45 [a0, a1, a2, some (.ref y), a4, a5, a6] (.int z :: st) M x = Rs L xs (d) 72 47 [a0, a1, a2, some (.ref y), some (.int z), a5, a6] st M x := Rs_next c72_45 rfl
theorem s72_45n {L : Nat} {xs : Nat → Int32} {d x : Nat} {M : qxM} {st : List Value} {a0 a1 a2 a4 a5 a6 : Option Value} {z : Int32} : Rs L xs (d) 72 45 [a0, a1, a2, none, a4, a5, a6] (.int z :: st) M x = Rs L xs (d) 72 47 [a0, a1, a2, none, some (.int z), a5, a6] st M x := Rs_next c72_45 rfl
theorem c72_47 : qx_code 72 47 = some (47, .aload_n 0, 48, 0, 0, 0) := by decide +kernel
theorem s72_47 {L : Nat} {xs : Nat → Int32} {d x : Nat} {M : qxM} {st : List Value} {a1 a2 a3 a4 a5 a6 : Option Value} {z : Nat} : Rs L xs (d) 72 47 [some (.ref z), a1, a2, a3, a4, a5, a6] st M x = Rs L xs (d) 72 48 [some (.ref z), a1, a2, a3, a4, a5, a6] (.ref z :: st) M x := Rs_next c72_47 rfl
theorem c72_48 : qx_code 72 48 = some (48, .aload_n 1, 49, 0, 0, 0) := by decide +kernel
theorem s72_48 {L : Nat} {xs : Nat → Int32} {d x : Nat} {M : qxM} {st : List Value} {a0 a2 a3 a4 a5 a6 : Option Value} {z : Nat} : Rs L xs (d) 72 48 [a0, some (.ref z), a2, a3, a4, a5, a6] st M x = Rs L xs (d) 72 49 [a0, some (.ref z), a2, a3, a4, a5, a6] (.ref z :: st) M x := Rs_next c72_48 rfl
theorem c72_49 : qx_code 72 49 = some (49, .iload 5, 51, 0, 0, 0) := by decide +kernel
theorem s72_49 {L : Nat} {xs : Nat → Int32} {d x : Nat} {M : qxM} {st : List Value} {a0 a1 a2 a3 a4 a6 : Option Value} {z : Int32} : Rs L xs (d) 72 49 [a0, a1, a2, a3, a4, some (.int z), a6] st M x = Rs L xs (d) 72 51 [a0, a1, a2, a3, a4, some (.int z), a6] (.int z :: st) M x := Rs_next c72_49 rfl
theorem c72_51 : qx_code 72 51 = some (51, .invokevirtual 165, 54, 69, 3, 1278) := by decide +kernel
theorem s72_51 {L : Nat} {xs : Nat → Int32} {d x : Nat} {M : qxM} {st : List Value} {ls : qxL} {t : Nat} {z0 : Nat} {z1 : Int32} (hk : qx_kd t = 13) (hs : st.length ≤ 4) : Rs L xs (d + 1) 72 51 ls (.int z1 :: .ref z0 :: .ref t :: st) M x = (Rs L xs d 69 0 [some (.ref t), some (.ref z0), some (.int z1)] [] M 0).bind (qx_kn L xs (d + 1) 72 51 54 69 ls st x) := by
  have h1 : qx_act L xs (qx_rt 72) (51, .invokevirtual 165, 54, 69, 3, 1278) ls (.int z1 :: .ref z0 :: .ref t :: st) M = if 3 ≤ (.int z1 :: .ref z0 :: .ref t :: st).length ∧ st.length ≤ 4 then some (.inr (.inr (.inr (69, [.ref t, .ref z0, .int z1], st)))) else none := rfl
  rw [if_pos ⟨by simp [List.length_cons]; try omega, hs⟩] at h1
  have h2 := qx_kd_obj (k := 3) (by decide) hk
  exact Rs_call c72_51 h1 (by rw [show qx_args 69 [.ref t, .ref z0, .int z1] = decide (qx_sh t = some (.inl 3)) from rfl]; exact decide_eq_true h2)
theorem c72_54 : qx_code 72 54 = some (54, .istore 5, 56, 0, 0, 0) := by decide +kernel
theorem s72_54i {L : Nat} {xs : Nat → Int32} {d x : Nat} {M : qxM} {st : List Value} {a0 a1 a2 a3 a5 a6 : Option Value} {z : Int32} {y : Int32} : Rs L xs (d) 72 54 [a0, a1, a2, a3, some (.int y), a5, a6] (.int z :: st) M x = Rs L xs (d) 72 56 [a0, a1, a2, a3, some (.int y), some (.int z), a6] st M x := Rs_next c72_54 rfl
theorem s72_54r {L : Nat} {xs : Nat → Int32} {d x : Nat} {M : qxM} {st : List Value} {a0 a1 a2 a3 a5 a6 : Option Value} {z : Int32} {y : Nat} : Rs L xs (d) 72 54 [a0, a1, a2, a3, some (.ref y), a5, a6] (.int z :: st) M x = Rs L xs (d) 72 56 [a0, a1, a2, a3, some (.ref y), some (.int z), a6] st M x := Rs_next c72_54 rfl
theorem s72_54n {L : Nat} {xs : Nat → Int32} {d x : Nat} {M : qxM} {st : List Value} {a0 a1 a2 a3 a5 a6 : Option Value} {z : Int32} : Rs L xs (d) 72 54 [a0, a1, a2, a3, none, a5, a6] (.int z :: st) M x = Rs L xs (d) 72 56 [a0, a1, a2, a3, none, some (.int z), a6] st M x := Rs_next c72_54 rfl
theorem c72_56 : qx_code 72 56 = some (56, .iinc 6 1, 59, 0, 0, 0) := by decide +kernel
theorem s72_56i {L : Nat} {xs : Nat → Int32} {d x : Nat} {M : qxM} {st : List Value} {a0 a1 a2 a3 a4 : Option Value} {z : Int32} {y : Int32} : Rs L xs (d) 72 56 [a0, a1, a2, a3, a4, some (.int y), some (.int z)] st M x = Rs L xs (d) 72 59 [a0, a1, a2, a3, a4, some (.int y), some (.int (z + (nI 1)))] st M x := Rs_next c72_56 rfl
theorem s72_56r {L : Nat} {xs : Nat → Int32} {d x : Nat} {M : qxM} {st : List Value} {a0 a1 a2 a3 a4 : Option Value} {z : Int32} {y : Nat} : Rs L xs (d) 72 56 [a0, a1, a2, a3, a4, some (.ref y), some (.int z)] st M x = Rs L xs (d) 72 59 [a0, a1, a2, a3, a4, some (.ref y), some (.int (z + (nI 1)))] st M x := Rs_next c72_56 rfl
theorem s72_56n {L : Nat} {xs : Nat → Int32} {d x : Nat} {M : qxM} {st : List Value} {a0 a1 a2 a3 a4 : Option Value} {z : Int32} : Rs L xs (d) 72 56 [a0, a1, a2, a3, a4, none, some (.int z)] st M x = Rs L xs (d) 72 59 [a0, a1, a2, a3, a4, none, some (.int (z + (nI 1)))] st M x := Rs_next c72_56 rfl
theorem c72_59 : qx_code 72 59 = some (59, .goto (-42), 62, 17, 0, 0) := by decide +kernel
theorem s72_59 {L : Nat} {xs : Nat → Int32} {d x : Nat} {M : qxM} {st : List Value} {ls : qxL} : Rs L xs (d) 72 59 ls st M x = Rs L xs (d) 72 17 ls st M x := Rs_next c72_59 rfl
theorem c72_62 : qx_code 72 62 = some (62, .iload 4, 64, 0, 0, 0) := by decide +kernel
theorem s72_62 {L : Nat} {xs : Nat → Int32} {d x : Nat} {M : qxM} {st : List Value} {a0 a1 a2 a3 a5 a6 : Option Value} {z : Int32} : Rs L xs (d) 72 62 [a0, a1, a2, a3, some (.int z), a5, a6] st M x = Rs L xs (d) 72 64 [a0, a1, a2, a3, some (.int z), a5, a6] (.int z :: st) M x := Rs_next c72_62 rfl
theorem c72_64 : qx_code 72 64 = some (64, .ireturn, 65, 0, 0, 0) := by decide +kernel
theorem s72_64 {L : Nat} {xs : Nat → Int32} {d x : Nat} {M : qxM} {ls : qxL} {z : Int32} : Rs L xs (d) 72 64 ls [.int z] M x = some (.inl (some (.int z)), M, x) := Rs_ret c72_64 rfl
theorem c73_0 : qx_code 73 0 = some (0, .aload_n 0, 1, 0, 0, 0) := by decide +kernel
theorem s73_0 {L : Nat} {xs : Nat → Int32} {d x : Nat} {M : qxM} {st : List Value} {a1 : Option Value} {z : Nat} : Rs L xs (d) 73 0 [some (.ref z), a1] st M x = Rs L xs (d) 73 1 [some (.ref z), a1] (.ref z :: st) M x := Rs_next c73_0 rfl
theorem c73_1 : qx_code 73 1 = some (1, .getfield 12, 4, 4, 0, 355) := by decide +kernel
theorem s73_1 {L : Nat} {xs : Nat → Int32} {d x : Nat} {M : qxM} {st : List Value} {ls : qxL} {t : Nat} (hk : qx_kd t = 14) : Rs L xs (d) 73 1 ls (.ref t :: st) M x = Rs L xs (d) 73 4 ls (.ref (t + 1) :: st) M x := Rs_when (qx_kd_obj (k := 4) (by decide) hk) c73_1 rfl
theorem c73_4 : qx_code 73 4 = some (4, .aload_n 1, 5, 0, 0, 0) := by decide +kernel
theorem s73_4 {L : Nat} {xs : Nat → Int32} {d x : Nat} {M : qxM} {st : List Value} {a0 : Option Value} {z : Nat} : Rs L xs (d) 73 4 [a0, some (.ref z)] st M x = Rs L xs (d) 73 5 [a0, some (.ref z)] (.ref z :: st) M x := Rs_next c73_4 rfl
theorem c73_5 : qx_code 73 5 = some (5, .invokevirtual 25, 8, 35, 2, 703) := by decide +kernel
theorem s73_5 {L : Nat} {xs : Nat → Int32} {d x : Nat} {M : qxM} {st : List Value} {ls : qxL} {t : Nat} {z0 : Nat} (hk : qx_kd t = 12) (hs : st.length ≤ 4) : Rs L xs (d + 1) 73 5 ls (.ref z0 :: .ref t :: st) M x = (Rs L xs d 35 0 [some (.ref t), some (.ref z0)] [] M 0).bind (qx_kn L xs (d + 1) 73 5 8 35 ls st x) := by
  have h1 : qx_act L xs (qx_rt 73) (5, .invokevirtual 25, 8, 35, 2, 703) ls (.ref z0 :: .ref t :: st) M = if 2 ≤ (.ref z0 :: .ref t :: st).length ∧ st.length ≤ 4 then some (.inr (.inr (.inr (35, [.ref t, .ref z0], st)))) else none := rfl
  rw [if_pos ⟨by simp [List.length_cons]; try omega, hs⟩] at h1
  have h2 := qx_kd_obj (k := 2) (by decide) hk
  exact Rs_call c73_5 h1 (by rw [show qx_args 35 [.ref t, .ref z0] = decide (qx_sh t = some (.inl 2)) from rfl]; exact decide_eq_true h2)
theorem c73_8 : qx_code 73 8 = some (8, .aload_n 0, 9, 0, 0, 0) := by decide +kernel
theorem s73_8 {L : Nat} {xs : Nat → Int32} {d x : Nat} {M : qxM} {st : List Value} {a1 : Option Value} {z : Nat} : Rs L xs (d) 73 8 [some (.ref z), a1] st M x = Rs L xs (d) 73 9 [some (.ref z), a1] (.ref z :: st) M x := Rs_next c73_8 rfl
theorem c73_9 : qx_code 73 9 = some (9, .getfield 21, 12, 4, 1, 357) := by decide +kernel
theorem s73_9 {L : Nat} {xs : Nat → Int32} {d x : Nat} {M : qxM} {st : List Value} {ls : qxL} {t : Nat} (hk : qx_kd t = 14) : Rs L xs (d) 73 9 ls (.ref t :: st) M x = Rs L xs (d) 73 12 ls (.ref (t + 4) :: st) M x := Rs_when (qx_kd_obj (k := 4) (by decide) hk) c73_9 rfl
theorem c73_12 : qx_code 73 12 = some (12, .invokevirtual 29, 15, 54, 1, 716) := by decide +kernel
theorem s73_12 {L : Nat} {xs : Nat → Int32} {d x : Nat} {M : qxM} {st : List Value} {ls : qxL} {t : Nat} (hk : qx_kd t = 13) (hs : st.length ≤ 4) : Rs L xs (d + 1) 73 12 ls (.ref t :: st) M x = (Rs L xs d 54 0 [some (.ref t)] [] M 0).bind (qx_kn L xs (d + 1) 73 12 15 54 ls st x) := by
  have h1 : qx_act L xs (qx_rt 73) (12, .invokevirtual 29, 15, 54, 1, 716) ls (.ref t :: st) M = if 1 ≤ (.ref t :: st).length ∧ st.length ≤ 4 then some (.inr (.inr (.inr (54, [.ref t], st)))) else none := rfl
  rw [if_pos ⟨by simp [List.length_cons]; try omega, hs⟩] at h1
  have h2 := qx_kd_obj (k := 3) (by decide) hk
  exact Rs_call c73_12 h1 (by rw [show qx_args 54 [.ref t] = decide (qx_sh t = some (.inl 3)) from rfl]; exact decide_eq_true h2)
theorem c73_15 : qx_code 73 15 = some (15, .aload_n 0, 16, 0, 0, 0) := by decide +kernel
theorem s73_15 {L : Nat} {xs : Nat → Int32} {d x : Nat} {M : qxM} {st : List Value} {a1 : Option Value} {z : Nat} : Rs L xs (d) 73 15 [some (.ref z), a1] st M x = Rs L xs (d) 73 16 [some (.ref z), a1] (.ref z :: st) M x := Rs_next c73_15 rfl
theorem c73_16 : qx_code 73 16 = some (16, .iconst 0, 17, 0, 0, 0) := by decide +kernel
theorem s73_16 {L : Nat} {xs : Nat → Int32} {d x : Nat} {M : qxM} {st : List Value} {ls : qxL} : Rs L xs (d) 73 16 ls st M x = Rs L xs (d) 73 17 ls (.int (nI 0) :: st) M x := Rs_next c73_16 rfl
theorem c73_17 : qx_code 73 17 = some (17, .putfield 32, 20, 4, 2, 359) := by decide +kernel
theorem s73_17 {L : Nat} {xs : Nat → Int32} {d x : Nat} {M : qxM} {st : List Value} {ls : qxL} {t : Nat} {z : Int32} (hk : qx_kd t = 14) : Rs L xs (d) 73 17 ls (.int z :: .ref t :: st) M x = Rs L xs (d) 73 20 ls st (qx_up M t 2 z) x := Rs_when (cnd := qx_sh t = some (.inl 4) ∧ qx_fo 4 2 = none ∧ (qx_bf 4 2 = true → z = 0 ∨ z = 1)) ⟨qx_kd_obj (k := 4) (by decide) hk, rfl, fun h => nomatch h⟩ c73_17 rfl
theorem c73_20 : qx_code 73 20 = some (20, .aload_n 0, 21, 0, 0, 0) := by decide +kernel
theorem s73_20 {L : Nat} {xs : Nat → Int32} {d x : Nat} {M : qxM} {st : List Value} {a1 : Option Value} {z : Nat} : Rs L xs (d) 73 20 [some (.ref z), a1] st M x = Rs L xs (d) 73 21 [some (.ref z), a1] (.ref z :: st) M x := Rs_next c73_20 rfl
theorem c73_21 : qx_code 73 21 = some (21, .iconst 0, 22, 0, 0, 0) := by decide +kernel
theorem s73_21 {L : Nat} {xs : Nat → Int32} {d x : Nat} {M : qxM} {st : List Value} {ls : qxL} : Rs L xs (d) 73 21 ls st M x = Rs L xs (d) 73 22 ls (.int (nI 0) :: st) M x := Rs_next c73_21 rfl
theorem c73_22 : qx_code 73 22 = some (22, .putfield 36, 25, 4, 3, 361) := by decide +kernel
theorem s73_22 {L : Nat} {xs : Nat → Int32} {d x : Nat} {M : qxM} {st : List Value} {ls : qxL} {t : Nat} {z : Int32} (hk : qx_kd t = 14) : Rs L xs (d) 73 22 ls (.int z :: .ref t :: st) M x = Rs L xs (d) 73 25 ls st (qx_up M t 3 z) x := Rs_when (cnd := qx_sh t = some (.inl 4) ∧ qx_fo 4 3 = none ∧ (qx_bf 4 3 = true → z = 0 ∨ z = 1)) ⟨qx_kd_obj (k := 4) (by decide) hk, rfl, fun h => nomatch h⟩ c73_22 rfl
theorem c73_25 : qx_code 73 25 = some (25, .aload_n 0, 26, 0, 0, 0) := by decide +kernel
theorem s73_25 {L : Nat} {xs : Nat → Int32} {d x : Nat} {M : qxM} {st : List Value} {a1 : Option Value} {z : Nat} : Rs L xs (d) 73 25 [some (.ref z), a1] st M x = Rs L xs (d) 73 26 [some (.ref z), a1] (.ref z :: st) M x := Rs_next c73_25 rfl
theorem c73_26 : qx_code 73 26 = some (26, .iconst 0, 27, 0, 0, 0) := by decide +kernel
theorem s73_26 {L : Nat} {xs : Nat → Int32} {d x : Nat} {M : qxM} {st : List Value} {ls : qxL} : Rs L xs (d) 73 26 ls st M x = Rs L xs (d) 73 27 ls (.int (nI 0) :: st) M x := Rs_next c73_26 rfl
theorem c73_27 : qx_code 73 27 = some (27, .putfield 39, 30, 4, 4, 363) := by decide +kernel
theorem s73_27 {L : Nat} {xs : Nat → Int32} {d x : Nat} {M : qxM} {st : List Value} {ls : qxL} {t : Nat} {z : Int32} (hk : qx_kd t = 14) : Rs L xs (d) 73 27 ls (.int z :: .ref t :: st) M x = Rs L xs (d) 73 30 ls st (qx_up M t 4 z) x := Rs_when (cnd := qx_sh t = some (.inl 4) ∧ qx_fo 4 4 = none ∧ (qx_bf 4 4 = true → z = 0 ∨ z = 1)) ⟨qx_kd_obj (k := 4) (by decide) hk, rfl, fun h => nomatch h⟩ c73_27 rfl
theorem c73_30 : qx_code 73 30 = some (30, .aload_n 0, 31, 0, 0, 0) := by decide +kernel
theorem s73_30 {L : Nat} {xs : Nat → Int32} {d x : Nat} {M : qxM} {st : List Value} {a1 : Option Value} {z : Nat} : Rs L xs (d) 73 30 [some (.ref z), a1] st M x = Rs L xs (d) 73 31 [some (.ref z), a1] (.ref z :: st) M x := Rs_next c73_30 rfl
theorem c73_31 : qx_code 73 31 = some (31, .iconst 0, 32, 0, 0, 0) := by decide +kernel
theorem s73_31 {L : Nat} {xs : Nat → Int32} {d x : Nat} {M : qxM} {st : List Value} {ls : qxL} : Rs L xs (d) 73 31 ls st M x = Rs L xs (d) 73 32 ls (.int (nI 0) :: st) M x := Rs_next c73_31 rfl
theorem c73_32 : qx_code 73 32 = some (32, .putfield 42, 35, 4, 5, 365) := by decide +kernel
theorem s73_32 {L : Nat} {xs : Nat → Int32} {d x : Nat} {M : qxM} {st : List Value} {ls : qxL} {t : Nat} {z : Int32} (hk : qx_kd t = 14) : Rs L xs (d) 73 32 ls (.int z :: .ref t :: st) M x = Rs L xs (d) 73 35 ls st (qx_up M t 5 z) x := Rs_when (cnd := qx_sh t = some (.inl 4) ∧ qx_fo 4 5 = none ∧ (qx_bf 4 5 = true → z = 0 ∨ z = 1)) ⟨qx_kd_obj (k := 4) (by decide) hk, rfl, fun h => nomatch h⟩ c73_32 rfl
theorem c73_35 : qx_code 73 35 = some (35, .return_, 36, 0, 0, 0) := by decide +kernel
theorem s73_35 {L : Nat} {xs : Nat → Int32} {d x : Nat} {M : qxM} {ls : qxL} : Rs L xs (d) 73 35 ls [] M x = some (.inl none, M, x) := Rs_ret c73_35 rfl
theorem c74_0 : qx_code 74 0 = some (0, .aload_n 0, 1, 0, 0, 0) := by decide +kernel
theorem s74_0 {L : Nat} {xs : Nat → Int32} {d x : Nat} {M : qxM} {st : List Value} {a1 : Option Value} {z : Nat} : Rs L xs (d) 74 0 [some (.ref z), a1] st M x = Rs L xs (d) 74 1 [some (.ref z), a1] (.ref z :: st) M x := Rs_next c74_0 rfl
theorem c74_1 : qx_code 74 1 = some (1, .getfield 12, 4, 4, 0, 355) := by decide +kernel
theorem s74_1 {L : Nat} {xs : Nat → Int32} {d x : Nat} {M : qxM} {st : List Value} {ls : qxL} {t : Nat} (hk : qx_kd t = 14) : Rs L xs (d) 74 1 ls (.ref t :: st) M x = Rs L xs (d) 74 4 ls (.ref (t + 1) :: st) M x := Rs_when (qx_kd_obj (k := 4) (by decide) hk) c74_1 rfl
theorem c74_4 : qx_code 74 4 = some (4, .aload_n 1, 5, 0, 0, 0) := by decide +kernel
theorem s74_4 {L : Nat} {xs : Nat → Int32} {d x : Nat} {M : qxM} {st : List Value} {a0 : Option Value} {z : Nat} : Rs L xs (d) 74 4 [a0, some (.ref z)] st M x = Rs L xs (d) 74 5 [a0, some (.ref z)] (.ref z :: st) M x := Rs_next c74_4 rfl
theorem c74_5 : qx_code 74 5 = some (5, .getfield 12, 8, 4, 0, 355) := by decide +kernel
theorem s74_5 {L : Nat} {xs : Nat → Int32} {d x : Nat} {M : qxM} {st : List Value} {ls : qxL} {t : Nat} (hk : qx_kd t = 14) : Rs L xs (d) 74 5 ls (.ref t :: st) M x = Rs L xs (d) 74 8 ls (.ref (t + 1) :: st) M x := Rs_when (qx_kd_obj (k := 4) (by decide) hk) c74_5 rfl
theorem c74_8 : qx_code 74 8 = some (8, .invokevirtual 25, 11, 35, 2, 703) := by decide +kernel
theorem s74_8 {L : Nat} {xs : Nat → Int32} {d x : Nat} {M : qxM} {st : List Value} {ls : qxL} {t : Nat} {z0 : Nat} (hk : qx_kd t = 12) (hs : st.length ≤ 4) : Rs L xs (d + 1) 74 8 ls (.ref z0 :: .ref t :: st) M x = (Rs L xs d 35 0 [some (.ref t), some (.ref z0)] [] M 0).bind (qx_kn L xs (d + 1) 74 8 11 35 ls st x) := by
  have h1 : qx_act L xs (qx_rt 74) (8, .invokevirtual 25, 11, 35, 2, 703) ls (.ref z0 :: .ref t :: st) M = if 2 ≤ (.ref z0 :: .ref t :: st).length ∧ st.length ≤ 4 then some (.inr (.inr (.inr (35, [.ref t, .ref z0], st)))) else none := rfl
  rw [if_pos ⟨by simp [List.length_cons]; try omega, hs⟩] at h1
  have h2 := qx_kd_obj (k := 2) (by decide) hk
  exact Rs_call c74_8 h1 (by rw [show qx_args 35 [.ref t, .ref z0] = decide (qx_sh t = some (.inl 2)) from rfl]; exact decide_eq_true h2)
theorem c74_11 : qx_code 74 11 = some (11, .aload_n 0, 12, 0, 0, 0) := by decide +kernel
theorem s74_11 {L : Nat} {xs : Nat → Int32} {d x : Nat} {M : qxM} {st : List Value} {a1 : Option Value} {z : Nat} : Rs L xs (d) 74 11 [some (.ref z), a1] st M x = Rs L xs (d) 74 12 [some (.ref z), a1] (.ref z :: st) M x := Rs_next c74_11 rfl
theorem c74_12 : qx_code 74 12 = some (12, .getfield 21, 15, 4, 1, 357) := by decide +kernel
theorem s74_12 {L : Nat} {xs : Nat → Int32} {d x : Nat} {M : qxM} {st : List Value} {ls : qxL} {t : Nat} (hk : qx_kd t = 14) : Rs L xs (d) 74 12 ls (.ref t :: st) M x = Rs L xs (d) 74 15 ls (.ref (t + 4) :: st) M x := Rs_when (qx_kd_obj (k := 4) (by decide) hk) c74_12 rfl
theorem c74_15 : qx_code 74 15 = some (15, .aload_n 1, 16, 0, 0, 0) := by decide +kernel
theorem s74_15 {L : Nat} {xs : Nat → Int32} {d x : Nat} {M : qxM} {st : List Value} {a0 : Option Value} {z : Nat} : Rs L xs (d) 74 15 [a0, some (.ref z)] st M x = Rs L xs (d) 74 16 [a0, some (.ref z)] (.ref z :: st) M x := Rs_next c74_15 rfl
theorem c74_16 : qx_code 74 16 = some (16, .getfield 21, 19, 4, 1, 357) := by decide +kernel
theorem s74_16 {L : Nat} {xs : Nat → Int32} {d x : Nat} {M : qxM} {st : List Value} {ls : qxL} {t : Nat} (hk : qx_kd t = 14) : Rs L xs (d) 74 16 ls (.ref t :: st) M x = Rs L xs (d) 74 19 ls (.ref (t + 4) :: st) M x := Rs_when (qx_kd_obj (k := 4) (by decide) hk) c74_16 rfl
theorem c74_19 : qx_code 74 19 = some (19, .invokevirtual 45, 22, 55, 2, 1417) := by decide +kernel
theorem s74_19 {L : Nat} {xs : Nat → Int32} {d x : Nat} {M : qxM} {st : List Value} {ls : qxL} {t : Nat} {z0 : Nat} (hk : qx_kd t = 13) (hs : st.length ≤ 4) : Rs L xs (d + 1) 74 19 ls (.ref z0 :: .ref t :: st) M x = (Rs L xs d 55 0 [some (.ref t), some (.ref z0)] [] M 0).bind (qx_kn L xs (d + 1) 74 19 22 55 ls st x) := by
  have h1 : qx_act L xs (qx_rt 74) (19, .invokevirtual 45, 22, 55, 2, 1417) ls (.ref z0 :: .ref t :: st) M = if 2 ≤ (.ref z0 :: .ref t :: st).length ∧ st.length ≤ 4 then some (.inr (.inr (.inr (55, [.ref t, .ref z0], st)))) else none := rfl
  rw [if_pos ⟨by simp [List.length_cons]; try omega, hs⟩] at h1
  have h2 := qx_kd_obj (k := 3) (by decide) hk
  exact Rs_call c74_19 h1 (by rw [show qx_args 55 [.ref t, .ref z0] = decide (qx_sh t = some (.inl 3)) from rfl]; exact decide_eq_true h2)
theorem c74_22 : qx_code 74 22 = some (22, .aload_n 0, 23, 0, 0, 0) := by decide +kernel
theorem s74_22 {L : Nat} {xs : Nat → Int32} {d x : Nat} {M : qxM} {st : List Value} {a1 : Option Value} {z : Nat} : Rs L xs (d) 74 22 [some (.ref z), a1] st M x = Rs L xs (d) 74 23 [some (.ref z), a1] (.ref z :: st) M x := Rs_next c74_22 rfl
theorem c74_23 : qx_code 74 23 = some (23, .aload_n 1, 24, 0, 0, 0) := by decide +kernel
theorem s74_23 {L : Nat} {xs : Nat → Int32} {d x : Nat} {M : qxM} {st : List Value} {a0 : Option Value} {z : Nat} : Rs L xs (d) 74 23 [a0, some (.ref z)] st M x = Rs L xs (d) 74 24 [a0, some (.ref z)] (.ref z :: st) M x := Rs_next c74_23 rfl
theorem c74_24 : qx_code 74 24 = some (24, .getfield 32, 27, 4, 2, 359) := by decide +kernel
theorem s74_24 {L : Nat} {xs : Nat → Int32} {d x : Nat} {M : qxM} {st : List Value} {ls : qxL} {t : Nat} (hk : qx_kd t = 14) : Rs L xs (d) 74 24 ls (.ref t :: st) M x = Rs L xs (d) 74 27 ls (.int (M.1 t 2) :: st) M x := Rs_when (qx_kd_obj (k := 4) (by decide) hk) c74_24 rfl
theorem c74_27 : qx_code 74 27 = some (27, .putfield 32, 30, 4, 2, 359) := by decide +kernel
theorem s74_27 {L : Nat} {xs : Nat → Int32} {d x : Nat} {M : qxM} {st : List Value} {ls : qxL} {t : Nat} {z : Int32} (hk : qx_kd t = 14) : Rs L xs (d) 74 27 ls (.int z :: .ref t :: st) M x = Rs L xs (d) 74 30 ls st (qx_up M t 2 z) x := Rs_when (cnd := qx_sh t = some (.inl 4) ∧ qx_fo 4 2 = none ∧ (qx_bf 4 2 = true → z = 0 ∨ z = 1)) ⟨qx_kd_obj (k := 4) (by decide) hk, rfl, fun h => nomatch h⟩ c74_27 rfl
theorem c74_30 : qx_code 74 30 = some (30, .aload_n 0, 31, 0, 0, 0) := by decide +kernel
theorem s74_30 {L : Nat} {xs : Nat → Int32} {d x : Nat} {M : qxM} {st : List Value} {a1 : Option Value} {z : Nat} : Rs L xs (d) 74 30 [some (.ref z), a1] st M x = Rs L xs (d) 74 31 [some (.ref z), a1] (.ref z :: st) M x := Rs_next c74_30 rfl
theorem c74_31 : qx_code 74 31 = some (31, .aload_n 1, 32, 0, 0, 0) := by decide +kernel
theorem s74_31 {L : Nat} {xs : Nat → Int32} {d x : Nat} {M : qxM} {st : List Value} {a0 : Option Value} {z : Nat} : Rs L xs (d) 74 31 [a0, some (.ref z)] st M x = Rs L xs (d) 74 32 [a0, some (.ref z)] (.ref z :: st) M x := Rs_next c74_31 rfl
theorem c74_32 : qx_code 74 32 = some (32, .getfield 36, 35, 4, 3, 361) := by decide +kernel
theorem s74_32 {L : Nat} {xs : Nat → Int32} {d x : Nat} {M : qxM} {st : List Value} {ls : qxL} {t : Nat} (hk : qx_kd t = 14) : Rs L xs (d) 74 32 ls (.ref t :: st) M x = Rs L xs (d) 74 35 ls (.int (M.1 t 3) :: st) M x := Rs_when (qx_kd_obj (k := 4) (by decide) hk) c74_32 rfl
theorem c74_35 : qx_code 74 35 = some (35, .putfield 36, 38, 4, 3, 361) := by decide +kernel
theorem s74_35 {L : Nat} {xs : Nat → Int32} {d x : Nat} {M : qxM} {st : List Value} {ls : qxL} {t : Nat} {z : Int32} (hk : qx_kd t = 14) : Rs L xs (d) 74 35 ls (.int z :: .ref t :: st) M x = Rs L xs (d) 74 38 ls st (qx_up M t 3 z) x := Rs_when (cnd := qx_sh t = some (.inl 4) ∧ qx_fo 4 3 = none ∧ (qx_bf 4 3 = true → z = 0 ∨ z = 1)) ⟨qx_kd_obj (k := 4) (by decide) hk, rfl, fun h => nomatch h⟩ c74_35 rfl
theorem c74_38 : qx_code 74 38 = some (38, .aload_n 0, 39, 0, 0, 0) := by decide +kernel
theorem s74_38 {L : Nat} {xs : Nat → Int32} {d x : Nat} {M : qxM} {st : List Value} {a1 : Option Value} {z : Nat} : Rs L xs (d) 74 38 [some (.ref z), a1] st M x = Rs L xs (d) 74 39 [some (.ref z), a1] (.ref z :: st) M x := Rs_next c74_38 rfl
theorem c74_39 : qx_code 74 39 = some (39, .aload_n 1, 40, 0, 0, 0) := by decide +kernel
theorem s74_39 {L : Nat} {xs : Nat → Int32} {d x : Nat} {M : qxM} {st : List Value} {a0 : Option Value} {z : Nat} : Rs L xs (d) 74 39 [a0, some (.ref z)] st M x = Rs L xs (d) 74 40 [a0, some (.ref z)] (.ref z :: st) M x := Rs_next c74_39 rfl
theorem c74_40 : qx_code 74 40 = some (40, .getfield 39, 43, 4, 4, 363) := by decide +kernel
theorem s74_40 {L : Nat} {xs : Nat → Int32} {d x : Nat} {M : qxM} {st : List Value} {ls : qxL} {t : Nat} (hk : qx_kd t = 14) : Rs L xs (d) 74 40 ls (.ref t :: st) M x = Rs L xs (d) 74 43 ls (.int (M.1 t 4) :: st) M x := Rs_when (qx_kd_obj (k := 4) (by decide) hk) c74_40 rfl
theorem c74_43 : qx_code 74 43 = some (43, .putfield 39, 46, 4, 4, 363) := by decide +kernel
theorem s74_43 {L : Nat} {xs : Nat → Int32} {d x : Nat} {M : qxM} {st : List Value} {ls : qxL} {t : Nat} {z : Int32} (hk : qx_kd t = 14) : Rs L xs (d) 74 43 ls (.int z :: .ref t :: st) M x = Rs L xs (d) 74 46 ls st (qx_up M t 4 z) x := Rs_when (cnd := qx_sh t = some (.inl 4) ∧ qx_fo 4 4 = none ∧ (qx_bf 4 4 = true → z = 0 ∨ z = 1)) ⟨qx_kd_obj (k := 4) (by decide) hk, rfl, fun h => nomatch h⟩ c74_43 rfl
theorem c74_46 : qx_code 74 46 = some (46, .aload_n 0, 47, 0, 0, 0) := by decide +kernel
theorem s74_46 {L : Nat} {xs : Nat → Int32} {d x : Nat} {M : qxM} {st : List Value} {a1 : Option Value} {z : Nat} : Rs L xs (d) 74 46 [some (.ref z), a1] st M x = Rs L xs (d) 74 47 [some (.ref z), a1] (.ref z :: st) M x := Rs_next c74_46 rfl
theorem c74_47 : qx_code 74 47 = some (47, .aload_n 1, 48, 0, 0, 0) := by decide +kernel
theorem s74_47 {L : Nat} {xs : Nat → Int32} {d x : Nat} {M : qxM} {st : List Value} {a0 : Option Value} {z : Nat} : Rs L xs (d) 74 47 [a0, some (.ref z)] st M x = Rs L xs (d) 74 48 [a0, some (.ref z)] (.ref z :: st) M x := Rs_next c74_47 rfl
theorem c74_48 : qx_code 74 48 = some (48, .getfield 42, 51, 4, 5, 365) := by decide +kernel
theorem s74_48 {L : Nat} {xs : Nat → Int32} {d x : Nat} {M : qxM} {st : List Value} {ls : qxL} {t : Nat} (hk : qx_kd t = 14) : Rs L xs (d) 74 48 ls (.ref t :: st) M x = Rs L xs (d) 74 51 ls (.int (M.1 t 5) :: st) M x := Rs_when (qx_kd_obj (k := 4) (by decide) hk) c74_48 rfl
theorem c74_51 : qx_code 74 51 = some (51, .putfield 42, 54, 4, 5, 365) := by decide +kernel
theorem s74_51 {L : Nat} {xs : Nat → Int32} {d x : Nat} {M : qxM} {st : List Value} {ls : qxL} {t : Nat} {z : Int32} (hk : qx_kd t = 14) : Rs L xs (d) 74 51 ls (.int z :: .ref t :: st) M x = Rs L xs (d) 74 54 ls st (qx_up M t 5 z) x := Rs_when (cnd := qx_sh t = some (.inl 4) ∧ qx_fo 4 5 = none ∧ (qx_bf 4 5 = true → z = 0 ∨ z = 1)) ⟨qx_kd_obj (k := 4) (by decide) hk, rfl, fun h => nomatch h⟩ c74_51 rfl
theorem c74_54 : qx_code 74 54 = some (54, .return_, 55, 0, 0, 0) := by decide +kernel
theorem s74_54 {L : Nat} {xs : Nat → Int32} {d x : Nat} {M : qxM} {ls : qxL} : Rs L xs (d) 74 54 ls [] M x = some (.inl none, M, x) := Rs_ret c74_54 rfl
theorem c75_0 : qx_code 75 0 = some (0, .aload_n 0, 1, 0, 0, 0) := by decide +kernel
theorem s75_0 {L : Nat} {xs : Nat → Int32} {d x : Nat} {M : qxM} {st : List Value} {a1 a2 : Option Value} {z : Nat} : Rs L xs (d) 75 0 [some (.ref z), a1, a2] st M x = Rs L xs (d) 75 1 [some (.ref z), a1, a2] (.ref z :: st) M x := Rs_next c75_0 rfl
theorem c75_1 : qx_code 75 1 = some (1, .aload_n 1, 2, 0, 0, 0) := by decide +kernel
theorem s75_1 {L : Nat} {xs : Nat → Int32} {d x : Nat} {M : qxM} {st : List Value} {a0 a2 : Option Value} {z : Nat} : Rs L xs (d) 75 1 [a0, some (.ref z), a2] st M x = Rs L xs (d) 75 2 [a0, some (.ref z), a2] (.ref z :: st) M x := Rs_next c75_1 rfl
theorem c75_2 : qx_code 75 2 = some (2, .invokevirtual 48, 5, 73, 2, 1235) := by decide +kernel
theorem s75_2 {L : Nat} {xs : Nat → Int32} {d x : Nat} {M : qxM} {st : List Value} {ls : qxL} {t : Nat} {z0 : Nat} (hk : qx_kd t = 14) (hs : st.length ≤ 4) : Rs L xs (d + 1) 75 2 ls (.ref z0 :: .ref t :: st) M x = (Rs L xs d 73 0 [some (.ref t), some (.ref z0)] [] M 0).bind (qx_kn L xs (d + 1) 75 2 5 73 ls st x) := by
  have h1 : qx_act L xs (qx_rt 75) (2, .invokevirtual 48, 5, 73, 2, 1235) ls (.ref z0 :: .ref t :: st) M = if 2 ≤ (.ref z0 :: .ref t :: st).length ∧ st.length ≤ 4 then some (.inr (.inr (.inr (73, [.ref t, .ref z0], st)))) else none := rfl
  rw [if_pos ⟨by simp [List.length_cons]; try omega, hs⟩] at h1
  have h2 := qx_kd_obj (k := 4) (by decide) hk
  exact Rs_call c75_2 h1 (by rw [show qx_args 73 [.ref t, .ref z0] = decide (qx_sh t = some (.inl 4)) from rfl]; exact decide_eq_true h2)
theorem c75_5 : qx_code 75 5 = some (5, .aload_n 0, 6, 0, 0, 0) := by decide +kernel
theorem s75_5 {L : Nat} {xs : Nat → Int32} {d x : Nat} {M : qxM} {st : List Value} {a1 a2 : Option Value} {z : Nat} : Rs L xs (d) 75 5 [some (.ref z), a1, a2] st M x = Rs L xs (d) 75 6 [some (.ref z), a1, a2] (.ref z :: st) M x := Rs_next c75_5 rfl
theorem c75_6 : qx_code 75 6 = some (6, .getfield 12, 9, 4, 0, 355) := by decide +kernel
theorem s75_6 {L : Nat} {xs : Nat → Int32} {d x : Nat} {M : qxM} {st : List Value} {ls : qxL} {t : Nat} (hk : qx_kd t = 14) : Rs L xs (d) 75 6 ls (.ref t :: st) M x = Rs L xs (d) 75 9 ls (.ref (t + 1) :: st) M x := Rs_when (qx_kd_obj (k := 4) (by decide) hk) c75_6 rfl
theorem c75_9 : qx_code 75 9 = some (9, .iload_n 2, 10, 0, 0, 0) := by decide +kernel
theorem s75_9 {L : Nat} {xs : Nat → Int32} {d x : Nat} {M : qxM} {st : List Value} {a0 a1 : Option Value} {z : Int32} : Rs L xs (d) 75 9 [a0, a1, some (.int z)] st M x = Rs L xs (d) 75 10 [a0, a1, some (.int z)] (.int z :: st) M x := Rs_next c75_9 rfl
theorem c75_10 : qx_code 75 10 = some (10, .invokevirtual 51, 13, 47, 2, 1236) := by decide +kernel
theorem s75_10 {L : Nat} {xs : Nat → Int32} {d x : Nat} {M : qxM} {st : List Value} {ls : qxL} {t : Nat} {z0 : Int32} (hk : qx_kd t = 12) (hs : st.length ≤ 4) : Rs L xs (d + 1) 75 10 ls (.int z0 :: .ref t :: st) M x = (Rs L xs d 47 0 [some (.ref t), some (.int z0)] [] M 0).bind (qx_kn L xs (d + 1) 75 10 13 47 ls st x) := by
  have h1 : qx_act L xs (qx_rt 75) (10, .invokevirtual 51, 13, 47, 2, 1236) ls (.int z0 :: .ref t :: st) M = if 2 ≤ (.int z0 :: .ref t :: st).length ∧ st.length ≤ 4 then some (.inr (.inr (.inr (47, [.ref t, .int z0], st)))) else none := rfl
  rw [if_pos ⟨by simp [List.length_cons]; try omega, hs⟩] at h1
  have h2 := qx_kd_obj (k := 2) (by decide) hk
  exact Rs_call c75_10 h1 (by rw [show qx_args 47 [.ref t, .int z0] = decide (qx_sh t = some (.inl 2)) from rfl]; exact decide_eq_true h2)
theorem c75_13 : qx_code 75 13 = some (13, .ifCond .eq 11, 16, 24, 0, 0) := by decide +kernel
theorem s75_13 {L : Nat} {xs : Nat → Int32} {d x : Nat} {M : qxM} {st : List Value} {ls : qxL} {z : Int32} : Rs L xs (d) 75 13 ls (.int z :: st) M x = if z = 0 then Rs L xs (d) 75 24 ls st M x else Rs L xs (d) 75 16 ls st M x := Rs_ite c75_13 rfl
theorem c75_16 : qx_code 75 16 = some (16, .aload_n 0, 17, 0, 0, 0) := by decide +kernel
theorem s75_16 {L : Nat} {xs : Nat → Int32} {d x : Nat} {M : qxM} {st : List Value} {a1 a2 : Option Value} {z : Nat} : Rs L xs (d) 75 16 [some (.ref z), a1, a2] st M x = Rs L xs (d) 75 17 [some (.ref z), a1, a2] (.ref z :: st) M x := Rs_next c75_16 rfl
theorem c75_17 : qx_code 75 17 = some (17, .getfield 21, 20, 4, 1, 357) := by decide +kernel
theorem s75_17 {L : Nat} {xs : Nat → Int32} {d x : Nat} {M : qxM} {st : List Value} {ls : qxL} {t : Nat} (hk : qx_kd t = 14) : Rs L xs (d) 75 17 ls (.ref t :: st) M x = Rs L xs (d) 75 20 ls (.ref (t + 4) :: st) M x := Rs_when (qx_kd_obj (k := 4) (by decide) hk) c75_17 rfl
theorem c75_20 : qx_code 75 20 = some (20, .iload_n 2, 21, 0, 0, 0) := by decide +kernel
theorem s75_20 {L : Nat} {xs : Nat → Int32} {d x : Nat} {M : qxM} {st : List Value} {a0 a1 : Option Value} {z : Int32} : Rs L xs (d) 75 20 [a0, a1, some (.int z)] st M x = Rs L xs (d) 75 21 [a0, a1, some (.int z)] (.int z :: st) M x := Rs_next c75_20 rfl
theorem c75_21 : qx_code 75 21 = some (21, .invokevirtual 55, 24, 53, 2, 1237) := by decide +kernel
theorem s75_21 {L : Nat} {xs : Nat → Int32} {d x : Nat} {M : qxM} {st : List Value} {ls : qxL} {t : Nat} {z0 : Int32} (hk : qx_kd t = 13) (hs : st.length ≤ 4) : Rs L xs (d + 1) 75 21 ls (.int z0 :: .ref t :: st) M x = (Rs L xs d 53 0 [some (.ref t), some (.int z0), none] [] M 0).bind (qx_kn L xs (d + 1) 75 21 24 53 ls st x) := by
  have h1 : qx_act L xs (qx_rt 75) (21, .invokevirtual 55, 24, 53, 2, 1237) ls (.int z0 :: .ref t :: st) M = if 2 ≤ (.int z0 :: .ref t :: st).length ∧ st.length ≤ 4 then some (.inr (.inr (.inr (53, [.ref t, .int z0], st)))) else none := rfl
  rw [if_pos ⟨by simp [List.length_cons]; try omega, hs⟩] at h1
  have h2 := qx_kd_obj (k := 3) (by decide) hk
  exact Rs_call c75_21 h1 (by rw [show qx_args 53 [.ref t, .int z0] = decide (qx_sh t = some (.inl 3)) from rfl]; exact decide_eq_true h2)
theorem c75_24 : qx_code 75 24 = some (24, .return_, 25, 0, 0, 0) := by decide +kernel
theorem s75_24 {L : Nat} {xs : Nat → Int32} {d x : Nat} {M : qxM} {ls : qxL} : Rs L xs (d) 75 24 ls [] M x = some (.inl none, M, x) := Rs_ret c75_24 rfl
theorem c76_0 : qx_code 76 0 = some (0, .aload_n 0, 1, 0, 0, 0) := by decide +kernel
theorem s76_0 {L : Nat} {xs : Nat → Int32} {d x : Nat} {M : qxM} {st : List Value} {a1 a2 : Option Value} {z : Nat} : Rs L xs (d) 76 0 [some (.ref z), a1, a2] st M x = Rs L xs (d) 76 1 [some (.ref z), a1, a2] (.ref z :: st) M x := Rs_next c76_0 rfl
theorem c76_1 : qx_code 76 1 = some (1, .getfield 21, 4, 4, 1, 357) := by decide +kernel
theorem s76_1 {L : Nat} {xs : Nat → Int32} {d x : Nat} {M : qxM} {st : List Value} {ls : qxL} {t : Nat} (hk : qx_kd t = 14) : Rs L xs (d) 76 1 ls (.ref t :: st) M x = Rs L xs (d) 76 4 ls (.ref (t + 4) :: st) M x := Rs_when (qx_kd_obj (k := 4) (by decide) hk) c76_1 rfl
theorem c76_4 : qx_code 76 4 = some (4, .getfield 59, 7, 3, 3, 305) := by decide +kernel
theorem s76_4 {L : Nat} {xs : Nat → Int32} {d x : Nat} {M : qxM} {st : List Value} {ls : qxL} {t : Nat} (hk : qx_kd t = 13) : Rs L xs (d) 76 4 ls (.ref t :: st) M x = Rs L xs (d) 76 7 ls (.int (M.1 t 3) :: st) M x := Rs_when (qx_kd_obj (k := 3) (by decide) hk) c76_4 rfl
theorem c76_7 : qx_code 76 7 = some (7, .istore_n 1, 8, 0, 0, 0) := by decide +kernel
theorem s76_7i {L : Nat} {xs : Nat → Int32} {d x : Nat} {M : qxM} {st : List Value} {a1 a2 : Option Value} {z : Int32} {y : Int32} : Rs L xs (d) 76 7 [some (.int y), a1, a2] (.int z :: st) M x = Rs L xs (d) 76 8 [some (.int y), some (.int z), a2] st M x := Rs_next c76_7 rfl
theorem s76_7r {L : Nat} {xs : Nat → Int32} {d x : Nat} {M : qxM} {st : List Value} {a1 a2 : Option Value} {z : Int32} {y : Nat} : Rs L xs (d) 76 7 [some (.ref y), a1, a2] (.int z :: st) M x = Rs L xs (d) 76 8 [some (.ref y), some (.int z), a2] st M x := Rs_next c76_7 rfl
theorem s76_7n {L : Nat} {xs : Nat → Int32} {d x : Nat} {M : qxM} {st : List Value} {a1 a2 : Option Value} {z : Int32} : Rs L xs (d) 76 7 [none, a1, a2] (.int z :: st) M x = Rs L xs (d) 76 8 [none, some (.int z), a2] st M x := Rs_next c76_7 rfl
theorem c76_8 : qx_code 76 8 = some (8, .aload_n 0, 9, 0, 0, 0) := by decide +kernel
theorem s76_8 {L : Nat} {xs : Nat → Int32} {d x : Nat} {M : qxM} {st : List Value} {a1 a2 : Option Value} {z : Nat} : Rs L xs (d) 76 8 [some (.ref z), a1, a2] st M x = Rs L xs (d) 76 9 [some (.ref z), a1, a2] (.ref z :: st) M x := Rs_next c76_8 rfl
theorem c76_9 : qx_code 76 9 = some (9, .getfield 21, 12, 4, 1, 357) := by decide +kernel
theorem s76_9 {L : Nat} {xs : Nat → Int32} {d x : Nat} {M : qxM} {st : List Value} {ls : qxL} {t : Nat} (hk : qx_kd t = 14) : Rs L xs (d) 76 9 ls (.ref t :: st) M x = Rs L xs (d) 76 12 ls (.ref (t + 4) :: st) M x := Rs_when (qx_kd_obj (k := 4) (by decide) hk) c76_9 rfl
theorem c76_12 : qx_code 76 12 = some (12, .aload_n 0, 13, 0, 0, 0) := by decide +kernel
theorem s76_12 {L : Nat} {xs : Nat → Int32} {d x : Nat} {M : qxM} {st : List Value} {a1 a2 : Option Value} {z : Nat} : Rs L xs (d) 76 12 [some (.ref z), a1, a2] st M x = Rs L xs (d) 76 13 [some (.ref z), a1, a2] (.ref z :: st) M x := Rs_next c76_12 rfl
theorem c76_13 : qx_code 76 13 = some (13, .getfield 12, 16, 4, 0, 355) := by decide +kernel
theorem s76_13 {L : Nat} {xs : Nat → Int32} {d x : Nat} {M : qxM} {st : List Value} {ls : qxL} {t : Nat} (hk : qx_kd t = 14) : Rs L xs (d) 76 13 ls (.ref t :: st) M x = Rs L xs (d) 76 16 ls (.ref (t + 1) :: st) M x := Rs_when (qx_kd_obj (k := 4) (by decide) hk) c76_13 rfl
theorem c76_16 : qx_code 76 16 = some (16, .invokevirtual 60, 19, 64, 2, 1261) := by decide +kernel
theorem s76_16 {L : Nat} {xs : Nat → Int32} {d x : Nat} {M : qxM} {st : List Value} {ls : qxL} {t : Nat} {z0 : Nat} (hk : qx_kd t = 13) (hs : st.length ≤ 4) : Rs L xs (d + 1) 76 16 ls (.ref z0 :: .ref t :: st) M x = (Rs L xs d 64 0 [some (.ref t), some (.ref z0), none, none] [] M 0).bind (qx_kn L xs (d + 1) 76 16 19 64 ls st x) := by
  have h1 : qx_act L xs (qx_rt 76) (16, .invokevirtual 60, 19, 64, 2, 1261) ls (.ref z0 :: .ref t :: st) M = if 2 ≤ (.ref z0 :: .ref t :: st).length ∧ st.length ≤ 4 then some (.inr (.inr (.inr (64, [.ref t, .ref z0], st)))) else none := rfl
  rw [if_pos ⟨by simp [List.length_cons]; try omega, hs⟩] at h1
  have h2 := qx_kd_obj (k := 3) (by decide) hk
  exact Rs_call c76_16 h1 (by rw [show qx_args 64 [.ref t, .ref z0] = decide (qx_sh t = some (.inl 3)) from rfl]; exact decide_eq_true h2)
theorem c76_19 : qx_code 76 19 = some (19, .istore_n 2, 20, 0, 0, 0) := by decide +kernel
theorem s76_19i {L : Nat} {xs : Nat → Int32} {d x : Nat} {M : qxM} {st : List Value} {a0 a2 : Option Value} {z : Int32} {y : Int32} : Rs L xs (d) 76 19 [a0, some (.int y), a2] (.int z :: st) M x = Rs L xs (d) 76 20 [a0, some (.int y), some (.int z)] st M x := Rs_next c76_19 rfl
theorem s76_19r {L : Nat} {xs : Nat → Int32} {d x : Nat} {M : qxM} {st : List Value} {a0 a2 : Option Value} {z : Int32} {y : Nat} : Rs L xs (d) 76 19 [a0, some (.ref y), a2] (.int z :: st) M x = Rs L xs (d) 76 20 [a0, some (.ref y), some (.int z)] st M x := Rs_next c76_19 rfl
theorem s76_19n {L : Nat} {xs : Nat → Int32} {d x : Nat} {M : qxM} {st : List Value} {a0 a2 : Option Value} {z : Int32} : Rs L xs (d) 76 19 [a0, none, a2] (.int z :: st) M x = Rs L xs (d) 76 20 [a0, none, some (.int z)] st M x := Rs_next c76_19 rfl
theorem c76_20 : qx_code 76 20 = some (20, .aload_n 0, 21, 0, 0, 0) := by decide +kernel
theorem s76_20 {L : Nat} {xs : Nat → Int32} {d x : Nat} {M : qxM} {st : List Value} {a1 a2 : Option Value} {z : Nat} : Rs L xs (d) 76 20 [some (.ref z), a1, a2] st M x = Rs L xs (d) 76 21 [some (.ref z), a1, a2] (.ref z :: st) M x := Rs_next c76_20 rfl
theorem c76_21 : qx_code 76 21 = some (21, .aload_n 0, 22, 0, 0, 0) := by decide +kernel
theorem s76_21 {L : Nat} {xs : Nat → Int32} {d x : Nat} {M : qxM} {st : List Value} {a1 a2 : Option Value} {z : Nat} : Rs L xs (d) 76 21 [some (.ref z), a1, a2] st M x = Rs L xs (d) 76 22 [some (.ref z), a1, a2] (.ref z :: st) M x := Rs_next c76_21 rfl
theorem c76_22 : qx_code 76 22 = some (22, .getfield 21, 25, 4, 1, 357) := by decide +kernel
theorem s76_22 {L : Nat} {xs : Nat → Int32} {d x : Nat} {M : qxM} {st : List Value} {ls : qxL} {t : Nat} (hk : qx_kd t = 14) : Rs L xs (d) 76 22 ls (.ref t :: st) M x = Rs L xs (d) 76 25 ls (.ref (t + 4) :: st) M x := Rs_when (qx_kd_obj (k := 4) (by decide) hk) c76_22 rfl
theorem c76_25 : qx_code 76 25 = some (25, .getfield 59, 28, 3, 3, 305) := by decide +kernel
theorem s76_25 {L : Nat} {xs : Nat → Int32} {d x : Nat} {M : qxM} {st : List Value} {ls : qxL} {t : Nat} (hk : qx_kd t = 13) : Rs L xs (d) 76 25 ls (.ref t :: st) M x = Rs L xs (d) 76 28 ls (.int (M.1 t 3) :: st) M x := Rs_when (qx_kd_obj (k := 3) (by decide) hk) c76_25 rfl
theorem c76_28 : qx_code 76 28 = some (28, .iload_n 1, 29, 0, 0, 0) := by decide +kernel
theorem s76_28 {L : Nat} {xs : Nat → Int32} {d x : Nat} {M : qxM} {st : List Value} {a0 a2 : Option Value} {z : Int32} : Rs L xs (d) 76 28 [a0, some (.int z), a2] st M x = Rs L xs (d) 76 29 [a0, some (.int z), a2] (.int z :: st) M x := Rs_next c76_28 rfl
theorem c76_29 : qx_code 76 29 = some (29, .isub, 30, 0, 0, 0) := by decide +kernel
theorem s76_29 {L : Nat} {xs : Nat → Int32} {d x : Nat} {M : qxM} {st : List Value} {ls : qxL} {z y : Int32} : Rs L xs (d) 76 29 ls (.int y :: .int z :: st) M x = Rs L xs (d) 76 30 ls (.int (z - y) :: st) M x := Rs_next c76_29 rfl
theorem c76_30 : qx_code 76 30 = some (30, .invokevirtual 64, 33, 78, 2, 1315) := by decide +kernel
theorem s76_30 {L : Nat} {xs : Nat → Int32} {d x : Nat} {M : qxM} {st : List Value} {ls : qxL} {t : Nat} {z0 : Int32} (hk : qx_kd t = 14) (hs : st.length ≤ 4) : Rs L xs (d + 1) 76 30 ls (.int z0 :: .ref t :: st) M x = (Rs L xs d 78 0 [some (.ref t), some (.int z0)] [] M 0).bind (qx_kn L xs (d + 1) 76 30 33 78 ls st x) := by
  have h1 : qx_act L xs (qx_rt 76) (30, .invokevirtual 64, 33, 78, 2, 1315) ls (.int z0 :: .ref t :: st) M = if 2 ≤ (.int z0 :: .ref t :: st).length ∧ st.length ≤ 4 then some (.inr (.inr (.inr (78, [.ref t, .int z0], st)))) else none := rfl
  rw [if_pos ⟨by simp [List.length_cons]; try omega, hs⟩] at h1
  have h2 := qx_kd_obj (k := 4) (by decide) hk
  exact Rs_call c76_30 h1 (by rw [show qx_args 78 [.ref t, .int z0] = decide (qx_sh t = some (.inl 4)) from rfl]; exact decide_eq_true h2)
theorem c76_33 : qx_code 76 33 = some (33, .iload_n 2, 34, 0, 0, 0) := by decide +kernel
theorem s76_33 {L : Nat} {xs : Nat → Int32} {d x : Nat} {M : qxM} {st : List Value} {a0 a1 : Option Value} {z : Int32} : Rs L xs (d) 76 33 [a0, a1, some (.int z)] st M x = Rs L xs (d) 76 34 [a0, a1, some (.int z)] (.int z :: st) M x := Rs_next c76_33 rfl
theorem c76_34 : qx_code 76 34 = some (34, .ireturn, 35, 0, 0, 0) := by decide +kernel
theorem s76_34 {L : Nat} {xs : Nat → Int32} {d x : Nat} {M : qxM} {ls : qxL} {z : Int32} : Rs L xs (d) 76 34 ls [.int z] M x = some (.inl (some (.int z)), M, x) := Rs_ret c76_34 rfl
theorem c77_0 : qx_code 77 0 = some (0, .aload_n 0, 1, 0, 0, 0) := by decide +kernel
theorem s77_0 {L : Nat} {xs : Nat → Int32} {d x : Nat} {M : qxM} {st : List Value} {a1 a2 a3 : Option Value} {z : Nat} : Rs L xs (d) 77 0 [some (.ref z), a1, a2, a3] st M x = Rs L xs (d) 77 1 [some (.ref z), a1, a2, a3] (.ref z :: st) M x := Rs_next c77_0 rfl
theorem c77_1 : qx_code 77 1 = some (1, .getfield 21, 4, 4, 1, 357) := by decide +kernel
theorem s77_1 {L : Nat} {xs : Nat → Int32} {d x : Nat} {M : qxM} {st : List Value} {ls : qxL} {t : Nat} (hk : qx_kd t = 14) : Rs L xs (d) 77 1 ls (.ref t :: st) M x = Rs L xs (d) 77 4 ls (.ref (t + 4) :: st) M x := Rs_when (qx_kd_obj (k := 4) (by decide) hk) c77_1 rfl
theorem c77_4 : qx_code 77 4 = some (4, .getfield 59, 7, 3, 3, 305) := by decide +kernel
theorem s77_4 {L : Nat} {xs : Nat → Int32} {d x : Nat} {M : qxM} {st : List Value} {ls : qxL} {t : Nat} (hk : qx_kd t = 13) : Rs L xs (d) 77 4 ls (.ref t :: st) M x = Rs L xs (d) 77 7 ls (.int (M.1 t 3) :: st) M x := Rs_when (qx_kd_obj (k := 3) (by decide) hk) c77_4 rfl
theorem c77_7 : qx_code 77 7 = some (7, .istore_n 1, 8, 0, 0, 0) := by decide +kernel
theorem s77_7i {L : Nat} {xs : Nat → Int32} {d x : Nat} {M : qxM} {st : List Value} {a1 a2 a3 : Option Value} {z : Int32} {y : Int32} : Rs L xs (d) 77 7 [some (.int y), a1, a2, a3] (.int z :: st) M x = Rs L xs (d) 77 8 [some (.int y), some (.int z), a2, a3] st M x := Rs_next c77_7 rfl
theorem s77_7r {L : Nat} {xs : Nat → Int32} {d x : Nat} {M : qxM} {st : List Value} {a1 a2 a3 : Option Value} {z : Int32} {y : Nat} : Rs L xs (d) 77 7 [some (.ref y), a1, a2, a3] (.int z :: st) M x = Rs L xs (d) 77 8 [some (.ref y), some (.int z), a2, a3] st M x := Rs_next c77_7 rfl
theorem s77_7n {L : Nat} {xs : Nat → Int32} {d x : Nat} {M : qxM} {st : List Value} {a1 a2 a3 : Option Value} {z : Int32} : Rs L xs (d) 77 7 [none, a1, a2, a3] (.int z :: st) M x = Rs L xs (d) 77 8 [none, some (.int z), a2, a3] st M x := Rs_next c77_7 rfl
theorem c77_8 : qx_code 77 8 = some (8, .aload_n 0, 9, 0, 0, 0) := by decide +kernel
theorem s77_8 {L : Nat} {xs : Nat → Int32} {d x : Nat} {M : qxM} {st : List Value} {a1 a2 a3 : Option Value} {z : Nat} : Rs L xs (d) 77 8 [some (.ref z), a1, a2, a3] st M x = Rs L xs (d) 77 9 [some (.ref z), a1, a2, a3] (.ref z :: st) M x := Rs_next c77_8 rfl
theorem c77_9 : qx_code 77 9 = some (9, .getfield 21, 12, 4, 1, 357) := by decide +kernel
theorem s77_9 {L : Nat} {xs : Nat → Int32} {d x : Nat} {M : qxM} {st : List Value} {ls : qxL} {t : Nat} (hk : qx_kd t = 14) : Rs L xs (d) 77 9 ls (.ref t :: st) M x = Rs L xs (d) 77 12 ls (.ref (t + 4) :: st) M x := Rs_when (qx_kd_obj (k := 4) (by decide) hk) c77_9 rfl
theorem c77_12 : qx_code 77 12 = some (12, .getfield 67, 15, 3, 2, 302) := by decide +kernel
theorem s77_12 {L : Nat} {xs : Nat → Int32} {d x : Nat} {M : qxM} {st : List Value} {ls : qxL} {t : Nat} (hk : qx_kd t = 13) : Rs L xs (d) 77 12 ls (.ref t :: st) M x = Rs L xs (d) 77 15 ls (.int (M.1 t 2) :: st) M x := Rs_when (qx_kd_obj (k := 3) (by decide) hk) c77_12 rfl
theorem c77_15 : qx_code 77 15 = some (15, .istore_n 2, 16, 0, 0, 0) := by decide +kernel
theorem s77_15i {L : Nat} {xs : Nat → Int32} {d x : Nat} {M : qxM} {st : List Value} {a0 a2 a3 : Option Value} {z : Int32} {y : Int32} : Rs L xs (d) 77 15 [a0, some (.int y), a2, a3] (.int z :: st) M x = Rs L xs (d) 77 16 [a0, some (.int y), some (.int z), a3] st M x := Rs_next c77_15 rfl
theorem s77_15r {L : Nat} {xs : Nat → Int32} {d x : Nat} {M : qxM} {st : List Value} {a0 a2 a3 : Option Value} {z : Int32} {y : Nat} : Rs L xs (d) 77 15 [a0, some (.ref y), a2, a3] (.int z :: st) M x = Rs L xs (d) 77 16 [a0, some (.ref y), some (.int z), a3] st M x := Rs_next c77_15 rfl
theorem s77_15n {L : Nat} {xs : Nat → Int32} {d x : Nat} {M : qxM} {st : List Value} {a0 a2 a3 : Option Value} {z : Int32} : Rs L xs (d) 77 15 [a0, none, a2, a3] (.int z :: st) M x = Rs L xs (d) 77 16 [a0, none, some (.int z), a3] st M x := Rs_next c77_15 rfl
theorem c77_16 : qx_code 77 16 = some (16, .iconst 0, 17, 0, 0, 0) := by decide +kernel
theorem s77_16 {L : Nat} {xs : Nat → Int32} {d x : Nat} {M : qxM} {st : List Value} {ls : qxL} : Rs L xs (d) 77 16 ls st M x = Rs L xs (d) 77 17 ls (.int (nI 0) :: st) M x := Rs_next c77_16 rfl
theorem c77_17 : qx_code 77 17 = some (17, .istore_n 3, 18, 0, 0, 0) := by decide +kernel
theorem s77_17i {L : Nat} {xs : Nat → Int32} {d x : Nat} {M : qxM} {st : List Value} {a0 a1 a3 : Option Value} {z : Int32} {y : Int32} : Rs L xs (d) 77 17 [a0, a1, some (.int y), a3] (.int z :: st) M x = Rs L xs (d) 77 18 [a0, a1, some (.int y), some (.int z)] st M x := Rs_next c77_17 rfl
theorem s77_17r {L : Nat} {xs : Nat → Int32} {d x : Nat} {M : qxM} {st : List Value} {a0 a1 a3 : Option Value} {z : Int32} {y : Nat} : Rs L xs (d) 77 17 [a0, a1, some (.ref y), a3] (.int z :: st) M x = Rs L xs (d) 77 18 [a0, a1, some (.ref y), some (.int z)] st M x := Rs_next c77_17 rfl
theorem s77_17n {L : Nat} {xs : Nat → Int32} {d x : Nat} {M : qxM} {st : List Value} {a0 a1 a3 : Option Value} {z : Int32} : Rs L xs (d) 77 17 [a0, a1, none, a3] (.int z :: st) M x = Rs L xs (d) 77 18 [a0, a1, none, some (.int z)] st M x := Rs_next c77_17 rfl
theorem c77_18 : qx_code 77 18 = some (18, .iload_n 3, 19, 0, 0, 0) := by decide +kernel
theorem s77_18 {L : Nat} {xs : Nat → Int32} {d x : Nat} {M : qxM} {st : List Value} {a0 a1 a2 : Option Value} {z : Int32} : Rs L xs (d) 77 18 [a0, a1, a2, some (.int z)] st M x = Rs L xs (d) 77 19 [a0, a1, a2, some (.int z)] (.int z :: st) M x := Rs_next c77_18 rfl
theorem c77_19 : qx_code 77 19 = some (19, .sipush 1000, 22, 0, 0, 0) := by decide +kernel
theorem s77_19 {L : Nat} {xs : Nat → Int32} {d x : Nat} {M : qxM} {st : List Value} {ls : qxL} : Rs L xs (d) 77 19 ls st M x = Rs L xs (d) 77 22 ls (.int (nI 1000) :: st) M x := Rs_next c77_19 rfl
theorem c77_22 : qx_code 77 22 = some (22, .if_icmp .ge 32, 25, 54, 0, 0) := by decide +kernel
theorem s77_22 {L : Nat} {xs : Nat → Int32} {d x : Nat} {M : qxM} {st : List Value} {ls : qxL} {z y : Int32} : Rs L xs (d) 77 22 ls (.int y :: .int z :: st) M x = if y ≤ z then Rs L xs (d) 77 54 ls st M x else Rs L xs (d) 77 25 ls st M x := Rs_ite c77_22 rfl
theorem c77_25 : qx_code 77 25 = some (25, .aload_n 0, 26, 0, 0, 0) := by decide +kernel
theorem s77_25 {L : Nat} {xs : Nat → Int32} {d x : Nat} {M : qxM} {st : List Value} {a1 a2 a3 : Option Value} {z : Nat} : Rs L xs (d) 77 25 [some (.ref z), a1, a2, a3] st M x = Rs L xs (d) 77 26 [some (.ref z), a1, a2, a3] (.ref z :: st) M x := Rs_next c77_25 rfl
theorem c77_26 : qx_code 77 26 = some (26, .getfield 21, 29, 4, 1, 357) := by decide +kernel
theorem s77_26 {L : Nat} {xs : Nat → Int32} {d x : Nat} {M : qxM} {st : List Value} {ls : qxL} {t : Nat} (hk : qx_kd t = 14) : Rs L xs (d) 77 26 ls (.ref t :: st) M x = Rs L xs (d) 77 29 ls (.ref (t + 4) :: st) M x := Rs_when (qx_kd_obj (k := 4) (by decide) hk) c77_26 rfl
theorem c77_29 : qx_code 77 29 = some (29, .getfield 70, 32, 3, 0, 297) := by decide +kernel
theorem s77_29 {L : Nat} {xs : Nat → Int32} {d x : Nat} {M : qxM} {st : List Value} {ls : qxL} {t : Nat} (hk : qx_kd t = 13) : Rs L xs (d) 77 29 ls (.ref t :: st) M x = Rs L xs (d) 77 32 ls (.int (M.1 t 0) :: st) M x := Rs_when (qx_kd_obj (k := 3) (by decide) hk) c77_29 rfl
theorem c77_32 : qx_code 77 32 = some (32, .iconst 1, 33, 0, 0, 0) := by decide +kernel
theorem s77_32 {L : Nat} {xs : Nat → Int32} {d x : Nat} {M : qxM} {st : List Value} {ls : qxL} : Rs L xs (d) 77 32 ls st M x = Rs L xs (d) 77 33 ls (.int (nI 1) :: st) M x := Rs_next c77_32 rfl
theorem c77_33 : qx_code 77 33 = some (33, .if_icmp .ne 21, 36, 54, 0, 0) := by decide +kernel
theorem s77_33 {L : Nat} {xs : Nat → Int32} {d x : Nat} {M : qxM} {st : List Value} {ls : qxL} {z y : Int32} : Rs L xs (d) 77 33 ls (.int y :: .int z :: st) M x = if z = y then Rs L xs (d) 77 36 ls st M x else Rs L xs (d) 77 54 ls st M x := Rs_ite c77_33 rfl
theorem c77_36 : qx_code 77 36 = some (36, .aload_n 0, 37, 0, 0, 0) := by decide +kernel
theorem s77_36 {L : Nat} {xs : Nat → Int32} {d x : Nat} {M : qxM} {st : List Value} {a1 a2 a3 : Option Value} {z : Nat} : Rs L xs (d) 77 36 [some (.ref z), a1, a2, a3] st M x = Rs L xs (d) 77 37 [some (.ref z), a1, a2, a3] (.ref z :: st) M x := Rs_next c77_36 rfl
theorem c77_37 : qx_code 77 37 = some (37, .getfield 21, 40, 4, 1, 357) := by decide +kernel
theorem s77_37 {L : Nat} {xs : Nat → Int32} {d x : Nat} {M : qxM} {st : List Value} {ls : qxL} {t : Nat} (hk : qx_kd t = 14) : Rs L xs (d) 77 37 ls (.ref t :: st) M x = Rs L xs (d) 77 40 ls (.ref (t + 4) :: st) M x := Rs_when (qx_kd_obj (k := 4) (by decide) hk) c77_37 rfl
theorem c77_40 : qx_code 77 40 = some (40, .aload_n 0, 41, 0, 0, 0) := by decide +kernel
theorem s77_40 {L : Nat} {xs : Nat → Int32} {d x : Nat} {M : qxM} {st : List Value} {a1 a2 a3 : Option Value} {z : Nat} : Rs L xs (d) 77 40 [some (.ref z), a1, a2, a3] st M x = Rs L xs (d) 77 41 [some (.ref z), a1, a2, a3] (.ref z :: st) M x := Rs_next c77_40 rfl
theorem c77_41 : qx_code 77 41 = some (41, .getfield 12, 44, 4, 0, 355) := by decide +kernel
theorem s77_41 {L : Nat} {xs : Nat → Int32} {d x : Nat} {M : qxM} {st : List Value} {ls : qxL} {t : Nat} (hk : qx_kd t = 14) : Rs L xs (d) 77 41 ls (.ref t :: st) M x = Rs L xs (d) 77 44 ls (.ref (t + 1) :: st) M x := Rs_when (qx_kd_obj (k := 4) (by decide) hk) c77_41 rfl
theorem c77_44 : qx_code 77 44 = some (44, .invokevirtual 60, 47, 64, 2, 1261) := by decide +kernel
theorem s77_44 {L : Nat} {xs : Nat → Int32} {d x : Nat} {M : qxM} {st : List Value} {ls : qxL} {t : Nat} {z0 : Nat} (hk : qx_kd t = 13) (hs : st.length ≤ 4) : Rs L xs (d + 1) 77 44 ls (.ref z0 :: .ref t :: st) M x = (Rs L xs d 64 0 [some (.ref t), some (.ref z0), none, none] [] M 0).bind (qx_kn L xs (d + 1) 77 44 47 64 ls st x) := by
  have h1 : qx_act L xs (qx_rt 77) (44, .invokevirtual 60, 47, 64, 2, 1261) ls (.ref z0 :: .ref t :: st) M = if 2 ≤ (.ref z0 :: .ref t :: st).length ∧ st.length ≤ 4 then some (.inr (.inr (.inr (64, [.ref t, .ref z0], st)))) else none := rfl
  rw [if_pos ⟨by simp [List.length_cons]; try omega, hs⟩] at h1
  have h2 := qx_kd_obj (k := 3) (by decide) hk
  exact Rs_call c77_44 h1 (by rw [show qx_args 64 [.ref t, .ref z0] = decide (qx_sh t = some (.inl 3)) from rfl]; exact decide_eq_true h2)
theorem c77_47 : qx_code 77 47 = some (47, .pop, 48, 0, 0, 0) := by decide +kernel
theorem s77_47 {L : Nat} {xs : Nat → Int32} {d x : Nat} {M : qxM} {st : List Value} {ls : qxL} {z : Int32} : Rs L xs (d) 77 47 ls (.int z :: st) M x = Rs L xs (d) 77 48 ls st M x := Rs_next c77_47 rfl
theorem c77_48 : qx_code 77 48 = some (48, .iinc 3 1, 51, 0, 0, 0) := by decide +kernel
theorem s77_48i {L : Nat} {xs : Nat → Int32} {d x : Nat} {M : qxM} {st : List Value} {a0 a1 : Option Value} {z : Int32} {y : Int32} : Rs L xs (d) 77 48 [a0, a1, some (.int y), some (.int z)] st M x = Rs L xs (d) 77 51 [a0, a1, some (.int y), some (.int (z + (nI 1)))] st M x := Rs_next c77_48 rfl
theorem s77_48r {L : Nat} {xs : Nat → Int32} {d x : Nat} {M : qxM} {st : List Value} {a0 a1 : Option Value} {z : Int32} {y : Nat} : Rs L xs (d) 77 48 [a0, a1, some (.ref y), some (.int z)] st M x = Rs L xs (d) 77 51 [a0, a1, some (.ref y), some (.int (z + (nI 1)))] st M x := Rs_next c77_48 rfl
theorem s77_48n {L : Nat} {xs : Nat → Int32} {d x : Nat} {M : qxM} {st : List Value} {a0 a1 : Option Value} {z : Int32} : Rs L xs (d) 77 48 [a0, a1, none, some (.int z)] st M x = Rs L xs (d) 77 51 [a0, a1, none, some (.int (z + (nI 1)))] st M x := Rs_next c77_48 rfl
theorem c77_51 : qx_code 77 51 = some (51, .goto (-33), 54, 18, 0, 0) := by decide +kernel
theorem s77_51 {L : Nat} {xs : Nat → Int32} {d x : Nat} {M : qxM} {st : List Value} {ls : qxL} : Rs L xs (d) 77 51 ls st M x = Rs L xs (d) 77 18 ls st M x := Rs_next c77_51 rfl
theorem c77_54 : qx_code 77 54 = some (54, .aload_n 0, 55, 0, 0, 0) := by decide +kernel
theorem s77_54 {L : Nat} {xs : Nat → Int32} {d x : Nat} {M : qxM} {st : List Value} {a1 a2 a3 : Option Value} {z : Nat} : Rs L xs (d) 77 54 [some (.ref z), a1, a2, a3] st M x = Rs L xs (d) 77 55 [some (.ref z), a1, a2, a3] (.ref z :: st) M x := Rs_next c77_54 rfl
theorem c77_55 : qx_code 77 55 = some (55, .aload_n 0, 56, 0, 0, 0) := by decide +kernel
theorem s77_55 {L : Nat} {xs : Nat → Int32} {d x : Nat} {M : qxM} {st : List Value} {a1 a2 a3 : Option Value} {z : Nat} : Rs L xs (d) 77 55 [some (.ref z), a1, a2, a3] st M x = Rs L xs (d) 77 56 [some (.ref z), a1, a2, a3] (.ref z :: st) M x := Rs_next c77_55 rfl
theorem c77_56 : qx_code 77 56 = some (56, .getfield 21, 59, 4, 1, 357) := by decide +kernel
theorem s77_56 {L : Nat} {xs : Nat → Int32} {d x : Nat} {M : qxM} {st : List Value} {ls : qxL} {t : Nat} (hk : qx_kd t = 14) : Rs L xs (d) 77 56 ls (.ref t :: st) M x = Rs L xs (d) 77 59 ls (.ref (t + 4) :: st) M x := Rs_when (qx_kd_obj (k := 4) (by decide) hk) c77_56 rfl
theorem c77_59 : qx_code 77 59 = some (59, .getfield 59, 62, 3, 3, 305) := by decide +kernel
theorem s77_59 {L : Nat} {xs : Nat → Int32} {d x : Nat} {M : qxM} {st : List Value} {ls : qxL} {t : Nat} (hk : qx_kd t = 13) : Rs L xs (d) 77 59 ls (.ref t :: st) M x = Rs L xs (d) 77 62 ls (.int (M.1 t 3) :: st) M x := Rs_when (qx_kd_obj (k := 3) (by decide) hk) c77_59 rfl
theorem c77_62 : qx_code 77 62 = some (62, .iload_n 1, 63, 0, 0, 0) := by decide +kernel
theorem s77_62 {L : Nat} {xs : Nat → Int32} {d x : Nat} {M : qxM} {st : List Value} {a0 a2 a3 : Option Value} {z : Int32} : Rs L xs (d) 77 62 [a0, some (.int z), a2, a3] st M x = Rs L xs (d) 77 63 [a0, some (.int z), a2, a3] (.int z :: st) M x := Rs_next c77_62 rfl
theorem c77_63 : qx_code 77 63 = some (63, .isub, 64, 0, 0, 0) := by decide +kernel
theorem s77_63 {L : Nat} {xs : Nat → Int32} {d x : Nat} {M : qxM} {st : List Value} {ls : qxL} {z y : Int32} : Rs L xs (d) 77 63 ls (.int y :: .int z :: st) M x = Rs L xs (d) 77 64 ls (.int (z - y) :: st) M x := Rs_next c77_63 rfl
theorem c77_64 : qx_code 77 64 = some (64, .invokevirtual 64, 67, 78, 2, 1315) := by decide +kernel
theorem s77_64 {L : Nat} {xs : Nat → Int32} {d x : Nat} {M : qxM} {st : List Value} {ls : qxL} {t : Nat} {z0 : Int32} (hk : qx_kd t = 14) (hs : st.length ≤ 4) : Rs L xs (d + 1) 77 64 ls (.int z0 :: .ref t :: st) M x = (Rs L xs d 78 0 [some (.ref t), some (.int z0)] [] M 0).bind (qx_kn L xs (d + 1) 77 64 67 78 ls st x) := by
  have h1 : qx_act L xs (qx_rt 77) (64, .invokevirtual 64, 67, 78, 2, 1315) ls (.int z0 :: .ref t :: st) M = if 2 ≤ (.int z0 :: .ref t :: st).length ∧ st.length ≤ 4 then some (.inr (.inr (.inr (78, [.ref t, .int z0], st)))) else none := rfl
  rw [if_pos ⟨by simp [List.length_cons]; try omega, hs⟩] at h1
  have h2 := qx_kd_obj (k := 4) (by decide) hk
  exact Rs_call c77_64 h1 (by rw [show qx_args 78 [.ref t, .int z0] = decide (qx_sh t = some (.inl 4)) from rfl]; exact decide_eq_true h2)
theorem c77_67 : qx_code 77 67 = some (67, .aload_n 0, 68, 0, 0, 0) := by decide +kernel
theorem s77_67 {L : Nat} {xs : Nat → Int32} {d x : Nat} {M : qxM} {st : List Value} {a1 a2 a3 : Option Value} {z : Nat} : Rs L xs (d) 77 67 [some (.ref z), a1, a2, a3] st M x = Rs L xs (d) 77 68 [some (.ref z), a1, a2, a3] (.ref z :: st) M x := Rs_next c77_67 rfl
theorem c77_68 : qx_code 77 68 = some (68, .getfield 21, 71, 4, 1, 357) := by decide +kernel
theorem s77_68 {L : Nat} {xs : Nat → Int32} {d x : Nat} {M : qxM} {st : List Value} {ls : qxL} {t : Nat} (hk : qx_kd t = 14) : Rs L xs (d) 77 68 ls (.ref t :: st) M x = Rs L xs (d) 77 71 ls (.ref (t + 4) :: st) M x := Rs_when (qx_kd_obj (k := 4) (by decide) hk) c77_68 rfl
theorem c77_71 : qx_code 77 71 = some (71, .getfield 67, 74, 3, 2, 302) := by decide +kernel
theorem s77_71 {L : Nat} {xs : Nat → Int32} {d x : Nat} {M : qxM} {st : List Value} {ls : qxL} {t : Nat} (hk : qx_kd t = 13) : Rs L xs (d) 77 71 ls (.ref t :: st) M x = Rs L xs (d) 77 74 ls (.int (M.1 t 2) :: st) M x := Rs_when (qx_kd_obj (k := 3) (by decide) hk) c77_71 rfl
theorem c77_74 : qx_code 77 74 = some (74, .iload_n 2, 75, 0, 0, 0) := by decide +kernel
theorem s77_74 {L : Nat} {xs : Nat → Int32} {d x : Nat} {M : qxM} {st : List Value} {a0 a1 a3 : Option Value} {z : Int32} : Rs L xs (d) 77 74 [a0, a1, some (.int z), a3] st M x = Rs L xs (d) 77 75 [a0, a1, some (.int z), a3] (.int z :: st) M x := Rs_next c77_74 rfl
theorem c77_75 : qx_code 77 75 = some (75, .isub, 76, 0, 0, 0) := by decide +kernel
theorem s77_75 {L : Nat} {xs : Nat → Int32} {d x : Nat} {M : qxM} {st : List Value} {ls : qxL} {z y : Int32} : Rs L xs (d) 77 75 ls (.int y :: .int z :: st) M x = Rs L xs (d) 77 76 ls (.int (z - y) :: st) M x := Rs_next c77_75 rfl
theorem c77_76 : qx_code 77 76 = some (76, .ireturn, 77, 0, 0, 0) := by decide +kernel
theorem s77_76 {L : Nat} {xs : Nat → Int32} {d x : Nat} {M : qxM} {ls : qxL} {z : Int32} : Rs L xs (d) 77 76 ls [.int z] M x = some (.inl (some (.int z)), M, x) := Rs_ret c77_76 rfl
theorem c78_0 : qx_code 78 0 = some (0, .aload_n 0, 1, 0, 0, 0) := by decide +kernel
theorem s78_0 {L : Nat} {xs : Nat → Int32} {d x : Nat} {M : qxM} {st : List Value} {a1 : Option Value} {z : Nat} : Rs L xs (d) 78 0 [some (.ref z), a1] st M x = Rs L xs (d) 78 1 [some (.ref z), a1] (.ref z :: st) M x := Rs_next c78_0 rfl
theorem c78_1 : qx_code 78 1 = some (1, .dup, 2, 0, 0, 0) := by decide +kernel
theorem s78_1r {L : Nat} {xs : Nat → Int32} {d x : Nat} {M : qxM} {st : List Value} {ls : qxL} {z : Nat} : Rs L xs (d) 78 1 ls (.ref z :: st) M x = Rs L xs (d) 78 2 ls (.ref z :: .ref z :: st) M x := Rs_next c78_1 rfl
theorem s78_1i {L : Nat} {xs : Nat → Int32} {d x : Nat} {M : qxM} {st : List Value} {ls : qxL} {z : Int32} : Rs L xs (d) 78 1 ls (.int z :: st) M x = Rs L xs (d) 78 2 ls (.int z :: .int z :: st) M x := Rs_next c78_1 rfl
theorem c78_2 : qx_code 78 2 = some (2, .getfield 39, 5, 4, 4, 363) := by decide +kernel
theorem s78_2 {L : Nat} {xs : Nat → Int32} {d x : Nat} {M : qxM} {st : List Value} {ls : qxL} {t : Nat} (hk : qx_kd t = 14) : Rs L xs (d) 78 2 ls (.ref t :: st) M x = Rs L xs (d) 78 5 ls (.int (M.1 t 4) :: st) M x := Rs_when (qx_kd_obj (k := 4) (by decide) hk) c78_2 rfl
theorem c78_5 : qx_code 78 5 = some (5, .iload_n 1, 6, 0, 0, 0) := by decide +kernel
theorem s78_5 {L : Nat} {xs : Nat → Int32} {d x : Nat} {M : qxM} {st : List Value} {a0 : Option Value} {z : Int32} : Rs L xs (d) 78 5 [a0, some (.int z)] st M x = Rs L xs (d) 78 6 [a0, some (.int z)] (.int z :: st) M x := Rs_next c78_5 rfl
theorem c78_6 : qx_code 78 6 = some (6, .iadd, 7, 0, 0, 0) := by decide +kernel
theorem s78_6 {L : Nat} {xs : Nat → Int32} {d x : Nat} {M : qxM} {st : List Value} {ls : qxL} {z y : Int32} : Rs L xs (d) 78 6 ls (.int y :: .int z :: st) M x = Rs L xs (d) 78 7 ls (.int (z + y) :: st) M x := Rs_next c78_6 rfl
theorem c78_7 : qx_code 78 7 = some (7, .putfield 39, 10, 4, 4, 363) := by decide +kernel
theorem s78_7 {L : Nat} {xs : Nat → Int32} {d x : Nat} {M : qxM} {st : List Value} {ls : qxL} {t : Nat} {z : Int32} (hk : qx_kd t = 14) : Rs L xs (d) 78 7 ls (.int z :: .ref t :: st) M x = Rs L xs (d) 78 10 ls st (qx_up M t 4 z) x := Rs_when (cnd := qx_sh t = some (.inl 4) ∧ qx_fo 4 4 = none ∧ (qx_bf 4 4 = true → z = 0 ∨ z = 1)) ⟨qx_kd_obj (k := 4) (by decide) hk, rfl, fun h => nomatch h⟩ c78_7 rfl
theorem c78_10 : qx_code 78 10 = some (10, .aload_n 0, 11, 0, 0, 0) := by decide +kernel
theorem s78_10 {L : Nat} {xs : Nat → Int32} {d x : Nat} {M : qxM} {st : List Value} {a1 : Option Value} {z : Nat} : Rs L xs (d) 78 10 [some (.ref z), a1] st M x = Rs L xs (d) 78 11 [some (.ref z), a1] (.ref z :: st) M x := Rs_next c78_10 rfl
theorem c78_11 : qx_code 78 11 = some (11, .dup, 12, 0, 0, 0) := by decide +kernel
theorem s78_11r {L : Nat} {xs : Nat → Int32} {d x : Nat} {M : qxM} {st : List Value} {ls : qxL} {z : Nat} : Rs L xs (d) 78 11 ls (.ref z :: st) M x = Rs L xs (d) 78 12 ls (.ref z :: .ref z :: st) M x := Rs_next c78_11 rfl
theorem s78_11i {L : Nat} {xs : Nat → Int32} {d x : Nat} {M : qxM} {st : List Value} {ls : qxL} {z : Int32} : Rs L xs (d) 78 11 ls (.int z :: st) M x = Rs L xs (d) 78 12 ls (.int z :: .int z :: st) M x := Rs_next c78_11 rfl
theorem c78_12 : qx_code 78 12 = some (12, .getfield 32, 15, 4, 2, 359) := by decide +kernel
theorem s78_12 {L : Nat} {xs : Nat → Int32} {d x : Nat} {M : qxM} {st : List Value} {ls : qxL} {t : Nat} (hk : qx_kd t = 14) : Rs L xs (d) 78 12 ls (.ref t :: st) M x = Rs L xs (d) 78 15 ls (.int (M.1 t 2) :: st) M x := Rs_when (qx_kd_obj (k := 4) (by decide) hk) c78_12 rfl
theorem c78_15 : qx_code 78 15 = some (15, .aload_n 0, 16, 0, 0, 0) := by decide +kernel
theorem s78_15 {L : Nat} {xs : Nat → Int32} {d x : Nat} {M : qxM} {st : List Value} {a1 : Option Value} {z : Nat} : Rs L xs (d) 78 15 [some (.ref z), a1] st M x = Rs L xs (d) 78 16 [some (.ref z), a1] (.ref z :: st) M x := Rs_next c78_15 rfl
theorem c78_16 : qx_code 78 16 = some (16, .getfield 21, 19, 4, 1, 357) := by decide +kernel
theorem s78_16 {L : Nat} {xs : Nat → Int32} {d x : Nat} {M : qxM} {st : List Value} {ls : qxL} {t : Nat} (hk : qx_kd t = 14) : Rs L xs (d) 78 16 ls (.ref t :: st) M x = Rs L xs (d) 78 19 ls (.ref (t + 4) :: st) M x := Rs_when (qx_kd_obj (k := 4) (by decide) hk) c78_16 rfl
theorem c78_19 : qx_code 78 19 = some (19, .getfield 70, 22, 3, 0, 297) := by decide +kernel
theorem s78_19 {L : Nat} {xs : Nat → Int32} {d x : Nat} {M : qxM} {st : List Value} {ls : qxL} {t : Nat} (hk : qx_kd t = 13) : Rs L xs (d) 78 19 ls (.ref t :: st) M x = Rs L xs (d) 78 22 ls (.int (M.1 t 0) :: st) M x := Rs_when (qx_kd_obj (k := 3) (by decide) hk) c78_19 rfl
theorem c78_22 : qx_code 78 22 = some (22, .iconst 2, 23, 0, 0, 0) := by decide +kernel
theorem s78_22 {L : Nat} {xs : Nat → Int32} {d x : Nat} {M : qxM} {st : List Value} {ls : qxL} : Rs L xs (d) 78 22 ls st M x = Rs L xs (d) 78 23 ls (.int (nI 2) :: st) M x := Rs_next c78_22 rfl
theorem c78_23 : qx_code 78 23 = some (23, .if_icmp .ne 7, 26, 30, 0, 0) := by decide +kernel
theorem s78_23 {L : Nat} {xs : Nat → Int32} {d x : Nat} {M : qxM} {st : List Value} {ls : qxL} {z y : Int32} : Rs L xs (d) 78 23 ls (.int y :: .int z :: st) M x = if z = y then Rs L xs (d) 78 26 ls st M x else Rs L xs (d) 78 30 ls st M x := Rs_ite c78_23 rfl
theorem c78_26 : qx_code 78 26 = some (26, .iconst 1, 27, 0, 0, 0) := by decide +kernel
theorem s78_26 {L : Nat} {xs : Nat → Int32} {d x : Nat} {M : qxM} {st : List Value} {ls : qxL} : Rs L xs (d) 78 26 ls st M x = Rs L xs (d) 78 27 ls (.int (nI 1) :: st) M x := Rs_next c78_26 rfl
theorem c78_27 : qx_code 78 27 = some (27, .goto 4, 30, 31, 0, 0) := by decide +kernel
theorem s78_27 {L : Nat} {xs : Nat → Int32} {d x : Nat} {M : qxM} {st : List Value} {ls : qxL} : Rs L xs (d) 78 27 ls st M x = Rs L xs (d) 78 31 ls st M x := Rs_next c78_27 rfl
theorem c78_30 : qx_code 78 30 = some (30, .iconst 0, 31, 0, 0, 0) := by decide +kernel
theorem s78_30 {L : Nat} {xs : Nat → Int32} {d x : Nat} {M : qxM} {st : List Value} {ls : qxL} : Rs L xs (d) 78 30 ls st M x = Rs L xs (d) 78 31 ls (.int (nI 0) :: st) M x := Rs_next c78_30 rfl
theorem c78_31 : qx_code 78 31 = some (31, .iadd, 32, 0, 0, 0) := by decide +kernel
theorem s78_31 {L : Nat} {xs : Nat → Int32} {d x : Nat} {M : qxM} {st : List Value} {ls : qxL} {z y : Int32} : Rs L xs (d) 78 31 ls (.int y :: .int z :: st) M x = Rs L xs (d) 78 32 ls (.int (z + y) :: st) M x := Rs_next c78_31 rfl
theorem c78_32 : qx_code 78 32 = some (32, .putfield 32, 35, 4, 2, 359) := by decide +kernel
theorem s78_32 {L : Nat} {xs : Nat → Int32} {d x : Nat} {M : qxM} {st : List Value} {ls : qxL} {t : Nat} {z : Int32} (hk : qx_kd t = 14) : Rs L xs (d) 78 32 ls (.int z :: .ref t :: st) M x = Rs L xs (d) 78 35 ls st (qx_up M t 2 z) x := Rs_when (cnd := qx_sh t = some (.inl 4) ∧ qx_fo 4 2 = none ∧ (qx_bf 4 2 = true → z = 0 ∨ z = 1)) ⟨qx_kd_obj (k := 4) (by decide) hk, rfl, fun h => nomatch h⟩ c78_32 rfl
theorem c78_35 : qx_code 78 35 = some (35, .aload_n 0, 36, 0, 0, 0) := by decide +kernel
theorem s78_35 {L : Nat} {xs : Nat → Int32} {d x : Nat} {M : qxM} {st : List Value} {a1 : Option Value} {z : Nat} : Rs L xs (d) 78 35 [some (.ref z), a1] st M x = Rs L xs (d) 78 36 [some (.ref z), a1] (.ref z :: st) M x := Rs_next c78_35 rfl
theorem c78_36 : qx_code 78 36 = some (36, .dup, 37, 0, 0, 0) := by decide +kernel
theorem s78_36r {L : Nat} {xs : Nat → Int32} {d x : Nat} {M : qxM} {st : List Value} {ls : qxL} {z : Nat} : Rs L xs (d) 78 36 ls (.ref z :: st) M x = Rs L xs (d) 78 37 ls (.ref z :: .ref z :: st) M x := Rs_next c78_36 rfl
theorem s78_36i {L : Nat} {xs : Nat → Int32} {d x : Nat} {M : qxM} {st : List Value} {ls : qxL} {z : Int32} : Rs L xs (d) 78 36 ls (.int z :: st) M x = Rs L xs (d) 78 37 ls (.int z :: .int z :: st) M x := Rs_next c78_36 rfl
theorem c78_37 : qx_code 78 37 = some (37, .getfield 36, 40, 4, 3, 361) := by decide +kernel
theorem s78_37 {L : Nat} {xs : Nat → Int32} {d x : Nat} {M : qxM} {st : List Value} {ls : qxL} {t : Nat} (hk : qx_kd t = 14) : Rs L xs (d) 78 37 ls (.ref t :: st) M x = Rs L xs (d) 78 40 ls (.int (M.1 t 3) :: st) M x := Rs_when (qx_kd_obj (k := 4) (by decide) hk) c78_37 rfl
theorem c78_40 : qx_code 78 40 = some (40, .aload_n 0, 41, 0, 0, 0) := by decide +kernel
theorem s78_40 {L : Nat} {xs : Nat → Int32} {d x : Nat} {M : qxM} {st : List Value} {a1 : Option Value} {z : Nat} : Rs L xs (d) 78 40 [some (.ref z), a1] st M x = Rs L xs (d) 78 41 [some (.ref z), a1] (.ref z :: st) M x := Rs_next c78_40 rfl
theorem c78_41 : qx_code 78 41 = some (41, .getfield 21, 44, 4, 1, 357) := by decide +kernel
theorem s78_41 {L : Nat} {xs : Nat → Int32} {d x : Nat} {M : qxM} {st : List Value} {ls : qxL} {t : Nat} (hk : qx_kd t = 14) : Rs L xs (d) 78 41 ls (.ref t :: st) M x = Rs L xs (d) 78 44 ls (.ref (t + 4) :: st) M x := Rs_when (qx_kd_obj (k := 4) (by decide) hk) c78_41 rfl
theorem c78_44 : qx_code 78 44 = some (44, .getfield 70, 47, 3, 0, 297) := by decide +kernel
theorem s78_44 {L : Nat} {xs : Nat → Int32} {d x : Nat} {M : qxM} {st : List Value} {ls : qxL} {t : Nat} (hk : qx_kd t = 13) : Rs L xs (d) 78 44 ls (.ref t :: st) M x = Rs L xs (d) 78 47 ls (.int (M.1 t 0) :: st) M x := Rs_when (qx_kd_obj (k := 3) (by decide) hk) c78_44 rfl
theorem c78_47 : qx_code 78 47 = some (47, .iconst 3, 48, 0, 0, 0) := by decide +kernel
theorem s78_47 {L : Nat} {xs : Nat → Int32} {d x : Nat} {M : qxM} {st : List Value} {ls : qxL} : Rs L xs (d) 78 47 ls st M x = Rs L xs (d) 78 48 ls (.int (nI 3) :: st) M x := Rs_next c78_47 rfl
theorem c78_48 : qx_code 78 48 = some (48, .if_icmp .ne 7, 51, 55, 0, 0) := by decide +kernel
theorem s78_48 {L : Nat} {xs : Nat → Int32} {d x : Nat} {M : qxM} {st : List Value} {ls : qxL} {z y : Int32} : Rs L xs (d) 78 48 ls (.int y :: .int z :: st) M x = if z = y then Rs L xs (d) 78 51 ls st M x else Rs L xs (d) 78 55 ls st M x := Rs_ite c78_48 rfl
theorem c78_51 : qx_code 78 51 = some (51, .iconst 1, 52, 0, 0, 0) := by decide +kernel
theorem s78_51 {L : Nat} {xs : Nat → Int32} {d x : Nat} {M : qxM} {st : List Value} {ls : qxL} : Rs L xs (d) 78 51 ls st M x = Rs L xs (d) 78 52 ls (.int (nI 1) :: st) M x := Rs_next c78_51 rfl
theorem c78_52 : qx_code 78 52 = some (52, .goto 4, 55, 56, 0, 0) := by decide +kernel
theorem s78_52 {L : Nat} {xs : Nat → Int32} {d x : Nat} {M : qxM} {st : List Value} {ls : qxL} : Rs L xs (d) 78 52 ls st M x = Rs L xs (d) 78 56 ls st M x := Rs_next c78_52 rfl
theorem c78_55 : qx_code 78 55 = some (55, .iconst 0, 56, 0, 0, 0) := by decide +kernel
theorem s78_55 {L : Nat} {xs : Nat → Int32} {d x : Nat} {M : qxM} {st : List Value} {ls : qxL} : Rs L xs (d) 78 55 ls st M x = Rs L xs (d) 78 56 ls (.int (nI 0) :: st) M x := Rs_next c78_55 rfl
theorem c78_56 : qx_code 78 56 = some (56, .iadd, 57, 0, 0, 0) := by decide +kernel
theorem s78_56 {L : Nat} {xs : Nat → Int32} {d x : Nat} {M : qxM} {st : List Value} {ls : qxL} {z y : Int32} : Rs L xs (d) 78 56 ls (.int y :: .int z :: st) M x = Rs L xs (d) 78 57 ls (.int (z + y) :: st) M x := Rs_next c78_56 rfl
theorem c78_57 : qx_code 78 57 = some (57, .putfield 36, 60, 4, 3, 361) := by decide +kernel
theorem s78_57 {L : Nat} {xs : Nat → Int32} {d x : Nat} {M : qxM} {st : List Value} {ls : qxL} {t : Nat} {z : Int32} (hk : qx_kd t = 14) : Rs L xs (d) 78 57 ls (.int z :: .ref t :: st) M x = Rs L xs (d) 78 60 ls st (qx_up M t 3 z) x := Rs_when (cnd := qx_sh t = some (.inl 4) ∧ qx_fo 4 3 = none ∧ (qx_bf 4 3 = true → z = 0 ∨ z = 1)) ⟨qx_kd_obj (k := 4) (by decide) hk, rfl, fun h => nomatch h⟩ c78_57 rfl
theorem c78_60 : qx_code 78 60 = some (60, .return_, 61, 0, 0, 0) := by decide +kernel
theorem s78_60 {L : Nat} {xs : Nat → Int32} {d x : Nat} {M : qxM} {ls : qxL} : Rs L xs (d) 78 60 ls [] M x = some (.inl none, M, x) := Rs_ret c78_60 rfl
theorem c79_0 : qx_code 79 0 = some (0, .aload_n 0, 1, 0, 0, 0) := by decide +kernel
theorem s79_0 {L : Nat} {xs : Nat → Int32} {d x : Nat} {M : qxM} {st : List Value} {z : Nat} : Rs L xs (d) 79 0 [some (.ref z)] st M x = Rs L xs (d) 79 1 [some (.ref z)] (.ref z :: st) M x := Rs_next c79_0 rfl
theorem c79_1 : qx_code 79 1 = some (1, .iconst 0, 2, 0, 0, 0) := by decide +kernel
theorem s79_1 {L : Nat} {xs : Nat → Int32} {d x : Nat} {M : qxM} {st : List Value} {ls : qxL} : Rs L xs (d) 79 1 ls st M x = Rs L xs (d) 79 2 ls (.int (nI 0) :: st) M x := Rs_next c79_1 rfl
theorem c79_2 : qx_code 79 2 = some (2, .putfield 15, 5, 5, 1, 240) := by decide +kernel
theorem s79_2 {L : Nat} {xs : Nat → Int32} {d x : Nat} {M : qxM} {st : List Value} {ls : qxL} {t : Nat} {z : Int32} (hk : qx_kd t = 15) : Rs L xs (d) 79 2 ls (.int z :: .ref t :: st) M x = Rs L xs (d) 79 5 ls st (qx_up M t 1 z) x := Rs_when (cnd := qx_sh t = some (.inl 5) ∧ qx_fo 5 1 = none ∧ (qx_bf 5 1 = true → z = 0 ∨ z = 1)) ⟨qx_kd_obj (k := 5) (by decide) hk, rfl, fun h => nomatch h⟩ c79_2 rfl
theorem c79_5 : qx_code 79 5 = some (5, .return_, 6, 0, 0, 0) := by decide +kernel
theorem s79_5 {L : Nat} {xs : Nat → Int32} {d x : Nat} {M : qxM} {ls : qxL} : Rs L xs (d) 79 5 ls [] M x = some (.inl none, M, x) := Rs_ret c79_5 rfl
theorem c80_0 : qx_code 80 0 = some (0, .aload_n 0, 1, 0, 0, 0) := by decide +kernel
theorem s80_0 {L : Nat} {xs : Nat → Int32} {d x : Nat} {M : qxM} {st : List Value} {a1 : Option Value} {z : Nat} : Rs L xs (d) 80 0 [some (.ref z), a1] st M x = Rs L xs (d) 80 1 [some (.ref z), a1] (.ref z :: st) M x := Rs_next c80_0 rfl
theorem c80_1 : qx_code 80 1 = some (1, .getfield 15, 4, 5, 1, 240) := by decide +kernel
theorem s80_1 {L : Nat} {xs : Nat → Int32} {d x : Nat} {M : qxM} {st : List Value} {ls : qxL} {t : Nat} (hk : qx_kd t = 15) : Rs L xs (d) 80 1 ls (.ref t :: st) M x = Rs L xs (d) 80 4 ls (.int (M.1 t 1) :: st) M x := Rs_when (qx_kd_obj (k := 5) (by decide) hk) c80_1 rfl
theorem c80_4 : qx_code 80 4 = some (4, .ifCond .lt 36, 7, 40, 0, 0) := by decide +kernel
theorem s80_4 {L : Nat} {xs : Nat → Int32} {d x : Nat} {M : qxM} {st : List Value} {ls : qxL} {z : Int32} : Rs L xs (d) 80 4 ls (.int z :: st) M x = if z < 0 then Rs L xs (d) 80 40 ls st M x else Rs L xs (d) 80 7 ls st M x := Rs_ite c80_4 rfl
theorem c80_7 : qx_code 80 7 = some (7, .aload_n 0, 8, 0, 0, 0) := by decide +kernel
theorem s80_7 {L : Nat} {xs : Nat → Int32} {d x : Nat} {M : qxM} {st : List Value} {a1 : Option Value} {z : Nat} : Rs L xs (d) 80 7 [some (.ref z), a1] st M x = Rs L xs (d) 80 8 [some (.ref z), a1] (.ref z :: st) M x := Rs_next c80_7 rfl
theorem c80_8 : qx_code 80 8 = some (8, .getfield 15, 11, 5, 1, 240) := by decide +kernel
theorem s80_8 {L : Nat} {xs : Nat → Int32} {d x : Nat} {M : qxM} {st : List Value} {ls : qxL} {t : Nat} (hk : qx_kd t = 15) : Rs L xs (d) 80 8 ls (.ref t :: st) M x = Rs L xs (d) 80 11 ls (.int (M.1 t 1) :: st) M x := Rs_when (qx_kd_obj (k := 5) (by decide) hk) c80_8 rfl
theorem c80_11 : qx_code 80 11 = some (11, .aload_n 0, 12, 0, 0, 0) := by decide +kernel
theorem s80_11 {L : Nat} {xs : Nat → Int32} {d x : Nat} {M : qxM} {st : List Value} {a1 : Option Value} {z : Nat} : Rs L xs (d) 80 11 [some (.ref z), a1] st M x = Rs L xs (d) 80 12 [some (.ref z), a1] (.ref z :: st) M x := Rs_next c80_11 rfl
theorem c80_12 : qx_code 80 12 = some (12, .getfield 9, 15, 5, 0, 238) := by decide +kernel
theorem s80_12 {L : Nat} {xs : Nat → Int32} {d x : Nat} {M : qxM} {st : List Value} {ls : qxL} {t : Nat} (hk : qx_kd t = 15) : Rs L xs (d) 80 12 ls (.ref t :: st) M x = Rs L xs (d) 80 15 ls (.ref (t + 1) :: st) M x := Rs_when (qx_kd_obj (k := 5) (by decide) hk) c80_12 rfl
theorem c80_15 : qx_code 80 15 = some (15, .arraylength, 16, 0, 0, 0) := by decide +kernel
theorem s80_15 {L : Nat} {xs : Nat → Int32} {d x : Nat} {M : qxM} {st : List Value} {ls : qxL} {t : Nat} (hk : qx_kd t < 6) : Rs L xs (d) 80 15 ls (.ref t :: st) M x = Rs L xs (d) 80 16 ls (.int (nI (qx_ln t)) :: st) M x := by
  have h1 := qx_kd_row hk rfl
  exact Rs_next c80_15 (by unfold qx_act; dsimp only; rw [h1]; rfl)
theorem c80_16 : qx_code 80 16 = some (16, .if_icmp .ge 24, 19, 40, 0, 0) := by decide +kernel
theorem s80_16 {L : Nat} {xs : Nat → Int32} {d x : Nat} {M : qxM} {st : List Value} {ls : qxL} {z y : Int32} : Rs L xs (d) 80 16 ls (.int y :: .int z :: st) M x = if y ≤ z then Rs L xs (d) 80 40 ls st M x else Rs L xs (d) 80 19 ls st M x := Rs_ite c80_16 rfl
theorem c80_19 : qx_code 80 19 = some (19, .aload_n 0, 20, 0, 0, 0) := by decide +kernel
theorem s80_19 {L : Nat} {xs : Nat → Int32} {d x : Nat} {M : qxM} {st : List Value} {a1 : Option Value} {z : Nat} : Rs L xs (d) 80 19 [some (.ref z), a1] st M x = Rs L xs (d) 80 20 [some (.ref z), a1] (.ref z :: st) M x := Rs_next c80_19 rfl
theorem c80_20 : qx_code 80 20 = some (20, .getfield 9, 23, 5, 0, 238) := by decide +kernel
theorem s80_20 {L : Nat} {xs : Nat → Int32} {d x : Nat} {M : qxM} {st : List Value} {ls : qxL} {t : Nat} (hk : qx_kd t = 15) : Rs L xs (d) 80 20 ls (.ref t :: st) M x = Rs L xs (d) 80 23 ls (.ref (t + 1) :: st) M x := Rs_when (qx_kd_obj (k := 5) (by decide) hk) c80_20 rfl
theorem c80_23 : qx_code 80 23 = some (23, .aload_n 0, 24, 0, 0, 0) := by decide +kernel
theorem s80_23 {L : Nat} {xs : Nat → Int32} {d x : Nat} {M : qxM} {st : List Value} {a1 : Option Value} {z : Nat} : Rs L xs (d) 80 23 [some (.ref z), a1] st M x = Rs L xs (d) 80 24 [some (.ref z), a1] (.ref z :: st) M x := Rs_next c80_23 rfl
theorem c80_24 : qx_code 80 24 = some (24, .getfield 15, 27, 5, 1, 240) := by decide +kernel
theorem s80_24 {L : Nat} {xs : Nat → Int32} {d x : Nat} {M : qxM} {st : List Value} {ls : qxL} {t : Nat} (hk : qx_kd t = 15) : Rs L xs (d) 80 24 ls (.ref t :: st) M x = Rs L xs (d) 80 27 ls (.int (M.1 t 1) :: st) M x := Rs_when (qx_kd_obj (k := 5) (by decide) hk) c80_24 rfl
theorem c80_27 : qx_code 80 27 = some (27, .iload_n 1, 28, 0, 0, 0) := by decide +kernel
theorem s80_27 {L : Nat} {xs : Nat → Int32} {d x : Nat} {M : qxM} {st : List Value} {a0 : Option Value} {z : Int32} : Rs L xs (d) 80 27 [a0, some (.int z)] st M x = Rs L xs (d) 80 28 [a0, some (.int z)] (.int z :: st) M x := Rs_next c80_27 rfl
theorem c80_28 : qx_code 80 28 = some (28, .i2b, 29, 0, 0, 0) := by decide +kernel
theorem s80_28 {L : Nat} {xs : Nat → Int32} {d x : Nat} {M : qxM} {st : List Value} {ls : qxL} {z : Int32} : Rs L xs (d) 80 28 ls (.int z :: st) M x = Rs L xs (d) 80 29 ls (.int z.toInt8.toInt32 :: st) M x := Rs_next c80_28 rfl
theorem c80_29 : qx_code 80 29 = some (29, .bastore, 30, 0, 0, 0) := by decide +kernel
theorem s80_29 {L : Nat} {xs : Nat → Int32} {d x : Nat} {M : qxM} {st : List Value} {ls : qxL} {t : Nat} {j : Int32} {z : Int32} (hk : qx_kd t = 1) (hj : qx_ib j (qx_ln t) = true) : Rs L xs (d) 80 29 ls (.int z :: .int j :: .ref t :: st) M x = Rs L xs (d) 80 30 ls st (qx_up M t j.toNatClampNeg z.toInt8.toInt32) x := by
  have h1 := qx_kd_row (k := 1) (by decide) hk
  exact Rs_unless (qx_ib_not hj) c80_29 (by unfold qx_act; dsimp only; rw [h1]; rfl)
theorem s80_29z {L : Nat} {xs : Nat → Int32} {d x : Nat} {M : qxM} {st : List Value} {ls : qxL} {t : Nat} {j : Int32} {z : Int32} (hk : qx_kd t = 2) (hj : qx_ib j (qx_ln t) = true) (h01 : z = 0 ∨ z = 1) : Rs L xs (d) 80 29 ls (.int z :: .int j :: .ref t :: st) M x = Rs L xs (d) 80 30 ls st (qx_up M t j.toNatClampNeg z) x := by
  have h1 := qx_kd_row (k := 2) (by decide) hk
  exact Rs_unless (qx_ib_not hj) c80_29 (by unfold qx_act; dsimp only; rw [h1]; first | (rw [if_pos h01]; rfl) | (simp only [if_pos h01]; rfl) | rfl)
theorem c80_30 : qx_code 80 30 = some (30, .aload_n 0, 31, 0, 0, 0) := by decide +kernel
theorem s80_30 {L : Nat} {xs : Nat → Int32} {d x : Nat} {M : qxM} {st : List Value} {a1 : Option Value} {z : Nat} : Rs L xs (d) 80 30 [some (.ref z), a1] st M x = Rs L xs (d) 80 31 [some (.ref z), a1] (.ref z :: st) M x := Rs_next c80_30 rfl
theorem c80_31 : qx_code 80 31 = some (31, .dup, 32, 0, 0, 0) := by decide +kernel
theorem s80_31r {L : Nat} {xs : Nat → Int32} {d x : Nat} {M : qxM} {st : List Value} {ls : qxL} {z : Nat} : Rs L xs (d) 80 31 ls (.ref z :: st) M x = Rs L xs (d) 80 32 ls (.ref z :: .ref z :: st) M x := Rs_next c80_31 rfl
theorem s80_31i {L : Nat} {xs : Nat → Int32} {d x : Nat} {M : qxM} {st : List Value} {ls : qxL} {z : Int32} : Rs L xs (d) 80 31 ls (.int z :: st) M x = Rs L xs (d) 80 32 ls (.int z :: .int z :: st) M x := Rs_next c80_31 rfl
theorem c80_32 : qx_code 80 32 = some (32, .getfield 15, 35, 5, 1, 240) := by decide +kernel
theorem s80_32 {L : Nat} {xs : Nat → Int32} {d x : Nat} {M : qxM} {st : List Value} {ls : qxL} {t : Nat} (hk : qx_kd t = 15) : Rs L xs (d) 80 32 ls (.ref t :: st) M x = Rs L xs (d) 80 35 ls (.int (M.1 t 1) :: st) M x := Rs_when (qx_kd_obj (k := 5) (by decide) hk) c80_32 rfl
theorem c80_35 : qx_code 80 35 = some (35, .iconst 1, 36, 0, 0, 0) := by decide +kernel
theorem s80_35 {L : Nat} {xs : Nat → Int32} {d x : Nat} {M : qxM} {st : List Value} {ls : qxL} : Rs L xs (d) 80 35 ls st M x = Rs L xs (d) 80 36 ls (.int (nI 1) :: st) M x := Rs_next c80_35 rfl
theorem c80_36 : qx_code 80 36 = some (36, .iadd, 37, 0, 0, 0) := by decide +kernel
theorem s80_36 {L : Nat} {xs : Nat → Int32} {d x : Nat} {M : qxM} {st : List Value} {ls : qxL} {z y : Int32} : Rs L xs (d) 80 36 ls (.int y :: .int z :: st) M x = Rs L xs (d) 80 37 ls (.int (z + y) :: st) M x := Rs_next c80_36 rfl
theorem c80_37 : qx_code 80 37 = some (37, .putfield 15, 40, 5, 1, 240) := by decide +kernel
theorem s80_37 {L : Nat} {xs : Nat → Int32} {d x : Nat} {M : qxM} {st : List Value} {ls : qxL} {t : Nat} {z : Int32} (hk : qx_kd t = 15) : Rs L xs (d) 80 37 ls (.int z :: .ref t :: st) M x = Rs L xs (d) 80 40 ls st (qx_up M t 1 z) x := Rs_when (cnd := qx_sh t = some (.inl 5) ∧ qx_fo 5 1 = none ∧ (qx_bf 5 1 = true → z = 0 ∨ z = 1)) ⟨qx_kd_obj (k := 5) (by decide) hk, rfl, fun h => nomatch h⟩ c80_37 rfl
theorem c80_40 : qx_code 80 40 = some (40, .return_, 41, 0, 0, 0) := by decide +kernel
theorem s80_40 {L : Nat} {xs : Nat → Int32} {d x : Nat} {M : qxM} {ls : qxL} : Rs L xs (d) 80 40 ls [] M x = some (.inl none, M, x) := Rs_ret c80_40 rfl
theorem c81_0 : qx_code 81 0 = some (0, .iload_n 1, 1, 0, 0, 0) := by decide +kernel
theorem s81_0 {L : Nat} {xs : Nat → Int32} {d x : Nat} {M : qxM} {st : List Value} {a0 : Option Value} {z : Int32} : Rs L xs (d) 81 0 [a0, some (.int z)] st M x = Rs L xs (d) 81 1 [a0, some (.int z)] (.int z :: st) M x := Rs_next c81_0 rfl
theorem c81_1 : qx_code 81 1 = some (1, .bipush 10, 3, 0, 0, 0) := by decide +kernel
theorem s81_1 {L : Nat} {xs : Nat → Int32} {d x : Nat} {M : qxM} {st : List Value} {ls : qxL} : Rs L xs (d) 81 1 ls st M x = Rs L xs (d) 81 3 ls (.int (nI 10) :: st) M x := Rs_next c81_1 rfl
theorem c81_3 : qx_code 81 3 = some (3, .if_icmp .lt 15, 6, 18, 0, 0) := by decide +kernel
theorem s81_3 {L : Nat} {xs : Nat → Int32} {d x : Nat} {M : qxM} {st : List Value} {ls : qxL} {z y : Int32} : Rs L xs (d) 81 3 ls (.int y :: .int z :: st) M x = if z < y then Rs L xs (d) 81 18 ls st M x else Rs L xs (d) 81 6 ls st M x := Rs_ite c81_3 rfl
theorem c81_6 : qx_code 81 6 = some (6, .aload_n 0, 7, 0, 0, 0) := by decide +kernel
theorem s81_6 {L : Nat} {xs : Nat → Int32} {d x : Nat} {M : qxM} {st : List Value} {a1 : Option Value} {z : Nat} : Rs L xs (d) 81 6 [some (.ref z), a1] st M x = Rs L xs (d) 81 7 [some (.ref z), a1] (.ref z :: st) M x := Rs_next c81_6 rfl
theorem c81_7 : qx_code 81 7 = some (7, .bipush 48, 9, 0, 0, 0) := by decide +kernel
theorem s81_7 {L : Nat} {xs : Nat → Int32} {d x : Nat} {M : qxM} {st : List Value} {ls : qxL} : Rs L xs (d) 81 7 ls st M x = Rs L xs (d) 81 9 ls (.int (nI 48) :: st) M x := Rs_next c81_7 rfl
theorem c81_9 : qx_code 81 9 = some (9, .iload_n 1, 10, 0, 0, 0) := by decide +kernel
theorem s81_9 {L : Nat} {xs : Nat → Int32} {d x : Nat} {M : qxM} {st : List Value} {a0 : Option Value} {z : Int32} : Rs L xs (d) 81 9 [a0, some (.int z)] st M x = Rs L xs (d) 81 10 [a0, some (.int z)] (.int z :: st) M x := Rs_next c81_9 rfl
theorem c81_10 : qx_code 81 10 = some (10, .bipush 10, 12, 0, 0, 0) := by decide +kernel
theorem s81_10 {L : Nat} {xs : Nat → Int32} {d x : Nat} {M : qxM} {st : List Value} {ls : qxL} : Rs L xs (d) 81 10 ls st M x = Rs L xs (d) 81 12 ls (.int (nI 10) :: st) M x := Rs_next c81_10 rfl
theorem c81_12 : qx_code 81 12 = some (12, .idiv, 13, 0, 0, 0) := by decide +kernel
theorem s81_12 {L : Nat} {xs : Nat → Int32} {d x : Nat} {M : qxM} {st : List Value} {ls : qxL} {z y : Int32} (h : ¬ y = 0) : Rs L xs (d) 81 12 ls (.int y :: .int z :: st) M x = Rs L xs (d) 81 13 ls (.int (z / y) :: st) M x := Rs_unless h c81_12 rfl
theorem c81_13 : qx_code 81 13 = some (13, .iadd, 14, 0, 0, 0) := by decide +kernel
theorem s81_13 {L : Nat} {xs : Nat → Int32} {d x : Nat} {M : qxM} {st : List Value} {ls : qxL} {z y : Int32} : Rs L xs (d) 81 13 ls (.int y :: .int z :: st) M x = Rs L xs (d) 81 14 ls (.int (z + y) :: st) M x := Rs_next c81_13 rfl
theorem c81_14 : qx_code 81 14 = some (14, .i2c, 15, 0, 0, 0) := by decide +kernel
theorem s81_14 {L : Nat} {xs : Nat → Int32} {d x : Nat} {M : qxM} {st : List Value} {ls : qxL} {z : Int32} : Rs L xs (d) 81 14 ls (.int z :: st) M x = Rs L xs (d) 81 15 ls (.int (z.toUInt32 % 65536).toInt32 :: st) M x := Rs_next c81_14 rfl
theorem c81_15 : qx_code 81 15 = some (15, .invokevirtual 19, 18, 80, 2, 1355) := by decide +kernel
theorem s81_15 {L : Nat} {xs : Nat → Int32} {d x : Nat} {M : qxM} {st : List Value} {ls : qxL} {t : Nat} {z0 : Int32} (hk : qx_kd t = 15) (hs : st.length ≤ 4) : Rs L xs (d + 1) 81 15 ls (.int z0 :: .ref t :: st) M x = (Rs L xs d 80 0 [some (.ref t), some (.int z0)] [] M 0).bind (qx_kn L xs (d + 1) 81 15 18 80 ls st x) := by
  have h1 : qx_act L xs (qx_rt 81) (15, .invokevirtual 19, 18, 80, 2, 1355) ls (.int z0 :: .ref t :: st) M = if 2 ≤ (.int z0 :: .ref t :: st).length ∧ st.length ≤ 4 then some (.inr (.inr (.inr (80, [.ref t, .int z0], st)))) else none := rfl
  rw [if_pos ⟨by simp [List.length_cons]; try omega, hs⟩] at h1
  have h2 := qx_kd_obj (k := 5) (by decide) hk
  exact Rs_call c81_15 h1 (by rw [show qx_args 80 [.ref t, .int z0] = decide (qx_sh t = some (.inl 5)) from rfl]; exact decide_eq_true h2)
theorem c81_18 : qx_code 81 18 = some (18, .aload_n 0, 19, 0, 0, 0) := by decide +kernel
theorem s81_18 {L : Nat} {xs : Nat → Int32} {d x : Nat} {M : qxM} {st : List Value} {a1 : Option Value} {z : Nat} : Rs L xs (d) 81 18 [some (.ref z), a1] st M x = Rs L xs (d) 81 19 [some (.ref z), a1] (.ref z :: st) M x := Rs_next c81_18 rfl
theorem c81_19 : qx_code 81 19 = some (19, .bipush 48, 21, 0, 0, 0) := by decide +kernel
theorem s81_19 {L : Nat} {xs : Nat → Int32} {d x : Nat} {M : qxM} {st : List Value} {ls : qxL} : Rs L xs (d) 81 19 ls st M x = Rs L xs (d) 81 21 ls (.int (nI 48) :: st) M x := Rs_next c81_19 rfl
theorem c81_21 : qx_code 81 21 = some (21, .iload_n 1, 22, 0, 0, 0) := by decide +kernel
theorem s81_21 {L : Nat} {xs : Nat → Int32} {d x : Nat} {M : qxM} {st : List Value} {a0 : Option Value} {z : Int32} : Rs L xs (d) 81 21 [a0, some (.int z)] st M x = Rs L xs (d) 81 22 [a0, some (.int z)] (.int z :: st) M x := Rs_next c81_21 rfl
theorem c81_22 : qx_code 81 22 = some (22, .bipush 10, 24, 0, 0, 0) := by decide +kernel
theorem s81_22 {L : Nat} {xs : Nat → Int32} {d x : Nat} {M : qxM} {st : List Value} {ls : qxL} : Rs L xs (d) 81 22 ls st M x = Rs L xs (d) 81 24 ls (.int (nI 10) :: st) M x := Rs_next c81_22 rfl
theorem c81_24 : qx_code 81 24 = some (24, .irem, 25, 0, 0, 0) := by decide +kernel
theorem s81_24 {L : Nat} {xs : Nat → Int32} {d x : Nat} {M : qxM} {st : List Value} {ls : qxL} {z y : Int32} (h : ¬ y = 0) : Rs L xs (d) 81 24 ls (.int y :: .int z :: st) M x = Rs L xs (d) 81 25 ls (.int (z - z / y * y) :: st) M x := Rs_unless h c81_24 rfl
theorem c81_25 : qx_code 81 25 = some (25, .iadd, 26, 0, 0, 0) := by decide +kernel
theorem s81_25 {L : Nat} {xs : Nat → Int32} {d x : Nat} {M : qxM} {st : List Value} {ls : qxL} {z y : Int32} : Rs L xs (d) 81 25 ls (.int y :: .int z :: st) M x = Rs L xs (d) 81 26 ls (.int (z + y) :: st) M x := Rs_next c81_25 rfl
theorem c81_26 : qx_code 81 26 = some (26, .i2c, 27, 0, 0, 0) := by decide +kernel
theorem s81_26 {L : Nat} {xs : Nat → Int32} {d x : Nat} {M : qxM} {st : List Value} {ls : qxL} {z : Int32} : Rs L xs (d) 81 26 ls (.int z :: st) M x = Rs L xs (d) 81 27 ls (.int (z.toUInt32 % 65536).toInt32 :: st) M x := Rs_next c81_26 rfl
theorem c81_27 : qx_code 81 27 = some (27, .invokevirtual 19, 30, 80, 2, 1355) := by decide +kernel
theorem s81_27 {L : Nat} {xs : Nat → Int32} {d x : Nat} {M : qxM} {st : List Value} {ls : qxL} {t : Nat} {z0 : Int32} (hk : qx_kd t = 15) (hs : st.length ≤ 4) : Rs L xs (d + 1) 81 27 ls (.int z0 :: .ref t :: st) M x = (Rs L xs d 80 0 [some (.ref t), some (.int z0)] [] M 0).bind (qx_kn L xs (d + 1) 81 27 30 80 ls st x) := by
  have h1 : qx_act L xs (qx_rt 81) (27, .invokevirtual 19, 30, 80, 2, 1355) ls (.int z0 :: .ref t :: st) M = if 2 ≤ (.int z0 :: .ref t :: st).length ∧ st.length ≤ 4 then some (.inr (.inr (.inr (80, [.ref t, .int z0], st)))) else none := rfl
  rw [if_pos ⟨by simp [List.length_cons]; try omega, hs⟩] at h1
  have h2 := qx_kd_obj (k := 5) (by decide) hk
  exact Rs_call c81_27 h1 (by rw [show qx_args 80 [.ref t, .int z0] = decide (qx_sh t = some (.inl 5)) from rfl]; exact decide_eq_true h2)
theorem c81_30 : qx_code 81 30 = some (30, .return_, 31, 0, 0, 0) := by decide +kernel
theorem s81_30 {L : Nat} {xs : Nat → Int32} {d x : Nat} {M : qxM} {ls : qxL} : Rs L xs (d) 81 30 ls [] M x = some (.inl none, M, x) := Rs_ret c81_30 rfl
theorem c82_0 : qx_code 82 0 = some (0, .iconst 0, 1, 0, 0, 0) := by decide +kernel
theorem s82_0 {L : Nat} {xs : Nat → Int32} {d x : Nat} {M : qxM} {st : List Value} {ls : qxL} : Rs L xs (d) 82 0 ls st M x = Rs L xs (d) 82 1 ls (.int (nI 0) :: st) M x := Rs_next c82_0 rfl
theorem c82_1 : qx_code 82 1 = some (1, .istore_n 2, 2, 0, 0, 0) := by decide +kernel
theorem s82_1i {L : Nat} {xs : Nat → Int32} {d x : Nat} {M : qxM} {st : List Value} {a0 a2 : Option Value} {z : Int32} {y : Int32} : Rs L xs (d) 82 1 [a0, some (.int y), a2] (.int z :: st) M x = Rs L xs (d) 82 2 [a0, some (.int y), some (.int z)] st M x := Rs_next c82_1 rfl
theorem s82_1r {L : Nat} {xs : Nat → Int32} {d x : Nat} {M : qxM} {st : List Value} {a0 a2 : Option Value} {z : Int32} {y : Nat} : Rs L xs (d) 82 1 [a0, some (.ref y), a2] (.int z :: st) M x = Rs L xs (d) 82 2 [a0, some (.ref y), some (.int z)] st M x := Rs_next c82_1 rfl
theorem s82_1n {L : Nat} {xs : Nat → Int32} {d x : Nat} {M : qxM} {st : List Value} {a0 a2 : Option Value} {z : Int32} : Rs L xs (d) 82 1 [a0, none, a2] (.int z :: st) M x = Rs L xs (d) 82 2 [a0, none, some (.int z)] st M x := Rs_next c82_1 rfl
theorem c82_2 : qx_code 82 2 = some (2, .iload_n 2, 3, 0, 0, 0) := by decide +kernel
theorem s82_2 {L : Nat} {xs : Nat → Int32} {d x : Nat} {M : qxM} {st : List Value} {a0 a1 : Option Value} {z : Int32} : Rs L xs (d) 82 2 [a0, a1, some (.int z)] st M x = Rs L xs (d) 82 3 [a0, a1, some (.int z)] (.int z :: st) M x := Rs_next c82_2 rfl
theorem c82_3 : qx_code 82 3 = some (3, .bipush 14, 5, 0, 0, 0) := by decide +kernel
theorem s82_3 {L : Nat} {xs : Nat → Int32} {d x : Nat} {M : qxM} {st : List Value} {ls : qxL} : Rs L xs (d) 82 3 ls st M x = Rs L xs (d) 82 5 ls (.int (nI 14) :: st) M x := Rs_next c82_3 rfl
theorem c82_5 : qx_code 82 5 = some (5, .if_icmp .ge 36, 8, 41, 0, 0) := by decide +kernel
theorem s82_5 {L : Nat} {xs : Nat → Int32} {d x : Nat} {M : qxM} {st : List Value} {ls : qxL} {z y : Int32} : Rs L xs (d) 82 5 ls (.int y :: .int z :: st) M x = if y ≤ z then Rs L xs (d) 82 41 ls st M x else Rs L xs (d) 82 8 ls st M x := Rs_ite c82_5 rfl
theorem c82_8 : qx_code 82 8 = some (8, .iload_n 1, 9, 0, 0, 0) := by decide +kernel
theorem s82_8 {L : Nat} {xs : Nat → Int32} {d x : Nat} {M : qxM} {st : List Value} {a0 a2 : Option Value} {z : Int32} : Rs L xs (d) 82 8 [a0, some (.int z), a2] st M x = Rs L xs (d) 82 9 [a0, some (.int z), a2] (.int z :: st) M x := Rs_next c82_8 rfl
theorem c82_9 : qx_code 82 9 = some (9, .iload_n 2, 10, 0, 0, 0) := by decide +kernel
theorem s82_9 {L : Nat} {xs : Nat → Int32} {d x : Nat} {M : qxM} {st : List Value} {a0 a1 : Option Value} {z : Int32} : Rs L xs (d) 82 9 [a0, a1, some (.int z)] st M x = Rs L xs (d) 82 10 [a0, a1, some (.int z)] (.int z :: st) M x := Rs_next c82_9 rfl
theorem c82_10 : qx_code 82 10 = some (10, .invokestatic 23, 13, 170, 2, 1379) := by decide +kernel
theorem s82_10 {L : Nat} {xs : Nat → Int32} {d x : Nat} {M : qxM} {st : List Value} {ls : qxL} {z0 : Int32} {z1 : Int32} (hs : st.length ≤ 4) : Rs L xs (d + 1) 82 10 ls (.int z1 :: .int z0 :: st) M x = (Rs L xs d 170 0 [some (.int z0), some (.int z1)] [] M 0).bind (qx_kn L xs (d + 1) 82 10 13 170 ls st x) := by
  have h1 : qx_act L xs (qx_rt 82) (10, .invokestatic 23, 13, 170, 2, 1379) ls (.int z1 :: .int z0 :: st) M = if 2 ≤ (.int z1 :: .int z0 :: st).length ∧ st.length ≤ 4 then some (.inr (.inr (.inr (170, [.int z0, .int z1], st)))) else none := rfl
  rw [if_pos ⟨by simp [List.length_cons]; try omega, hs⟩] at h1
  exact Rs_call c82_10 h1 rfl
theorem c82_13 : qx_code 82 13 = some (13, .ifCond .eq 22, 16, 35, 0, 0) := by decide +kernel
theorem s82_13 {L : Nat} {xs : Nat → Int32} {d x : Nat} {M : qxM} {st : List Value} {ls : qxL} {z : Int32} : Rs L xs (d) 82 13 ls (.int z :: st) M x = if z = 0 then Rs L xs (d) 82 35 ls st M x else Rs L xs (d) 82 16 ls st M x := Rs_ite c82_13 rfl
theorem c82_16 : qx_code 82 16 = some (16, .iload_n 1, 17, 0, 0, 0) := by decide +kernel
theorem s82_16 {L : Nat} {xs : Nat → Int32} {d x : Nat} {M : qxM} {st : List Value} {a0 a2 : Option Value} {z : Int32} : Rs L xs (d) 82 16 [a0, some (.int z), a2] st M x = Rs L xs (d) 82 17 [a0, some (.int z), a2] (.int z :: st) M x := Rs_next c82_16 rfl
theorem c82_17 : qx_code 82 17 = some (17, .iload_n 2, 18, 0, 0, 0) := by decide +kernel
theorem s82_17 {L : Nat} {xs : Nat → Int32} {d x : Nat} {M : qxM} {st : List Value} {a0 a1 : Option Value} {z : Int32} : Rs L xs (d) 82 17 [a0, a1, some (.int z)] st M x = Rs L xs (d) 82 18 [a0, a1, some (.int z)] (.int z :: st) M x := Rs_next c82_17 rfl
theorem c82_18 : qx_code 82 18 = some (18, .invokestatic 27, 21, 172, 2, 1380) := by decide +kernel
theorem s82_18 {L : Nat} {xs : Nat → Int32} {d x : Nat} {M : qxM} {st : List Value} {ls : qxL} {z0 : Int32} {z1 : Int32} (hs : st.length ≤ 4) : Rs L xs (d + 1) 82 18 ls (.int z1 :: .int z0 :: st) M x = (Rs L xs d 172 0 [some (.int z0), some (.int z1)] [] M 0).bind (qx_kn L xs (d + 1) 82 18 21 172 ls st x) := by
  have h1 : qx_act L xs (qx_rt 82) (18, .invokestatic 27, 21, 172, 2, 1380) ls (.int z1 :: .int z0 :: st) M = if 2 ≤ (.int z1 :: .int z0 :: st).length ∧ st.length ≤ 4 then some (.inr (.inr (.inr (172, [.int z0, .int z1], st)))) else none := rfl
  rw [if_pos ⟨by simp [List.length_cons]; try omega, hs⟩] at h1
  exact Rs_call c82_18 h1 rfl
theorem c82_21 : qx_code 82 21 = some (21, .ifCond .ne 9, 24, 30, 0, 0) := by decide +kernel
theorem s82_21 {L : Nat} {xs : Nat → Int32} {d x : Nat} {M : qxM} {st : List Value} {ls : qxL} {z : Int32} : Rs L xs (d) 82 21 ls (.int z :: st) M x = if z = 0 then Rs L xs (d) 82 24 ls st M x else Rs L xs (d) 82 30 ls st M x := Rs_ite c82_21 rfl
theorem c82_24 : qx_code 82 24 = some (24, .aload_n 0, 25, 0, 0, 0) := by decide +kernel
theorem s82_24 {L : Nat} {xs : Nat → Int32} {d x : Nat} {M : qxM} {st : List Value} {a1 a2 : Option Value} {z : Nat} : Rs L xs (d) 82 24 [some (.ref z), a1, a2] st M x = Rs L xs (d) 82 25 [some (.ref z), a1, a2] (.ref z :: st) M x := Rs_next c82_24 rfl
theorem c82_25 : qx_code 82 25 = some (25, .bipush 43, 27, 0, 0, 0) := by decide +kernel
theorem s82_25 {L : Nat} {xs : Nat → Int32} {d x : Nat} {M : qxM} {st : List Value} {ls : qxL} : Rs L xs (d) 82 25 ls st M x = Rs L xs (d) 82 27 ls (.int (nI 43) :: st) M x := Rs_next c82_25 rfl
theorem c82_27 : qx_code 82 27 = some (27, .invokevirtual 19, 30, 80, 2, 1355) := by decide +kernel
theorem s82_27 {L : Nat} {xs : Nat → Int32} {d x : Nat} {M : qxM} {st : List Value} {ls : qxL} {t : Nat} {z0 : Int32} (hk : qx_kd t = 15) (hs : st.length ≤ 4) : Rs L xs (d + 1) 82 27 ls (.int z0 :: .ref t :: st) M x = (Rs L xs d 80 0 [some (.ref t), some (.int z0)] [] M 0).bind (qx_kn L xs (d + 1) 82 27 30 80 ls st x) := by
  have h1 : qx_act L xs (qx_rt 82) (27, .invokevirtual 19, 30, 80, 2, 1355) ls (.int z0 :: .ref t :: st) M = if 2 ≤ (.int z0 :: .ref t :: st).length ∧ st.length ≤ 4 then some (.inr (.inr (.inr (80, [.ref t, .int z0], st)))) else none := rfl
  rw [if_pos ⟨by simp [List.length_cons]; try omega, hs⟩] at h1
  have h2 := qx_kd_obj (k := 5) (by decide) hk
  exact Rs_call c82_27 h1 (by rw [show qx_args 80 [.ref t, .int z0] = decide (qx_sh t = some (.inl 5)) from rfl]; exact decide_eq_true h2)
theorem c82_30 : qx_code 82 30 = some (30, .aload_n 0, 31, 0, 0, 0) := by decide +kernel
theorem s82_30 {L : Nat} {xs : Nat → Int32} {d x : Nat} {M : qxM} {st : List Value} {a1 a2 : Option Value} {z : Nat} : Rs L xs (d) 82 30 [some (.ref z), a1, a2] st M x = Rs L xs (d) 82 31 [some (.ref z), a1, a2] (.ref z :: st) M x := Rs_next c82_30 rfl
theorem c82_31 : qx_code 82 31 = some (31, .iload_n 2, 32, 0, 0, 0) := by decide +kernel
theorem s82_31 {L : Nat} {xs : Nat → Int32} {d x : Nat} {M : qxM} {st : List Value} {a0 a1 : Option Value} {z : Int32} : Rs L xs (d) 82 31 [a0, a1, some (.int z)] st M x = Rs L xs (d) 82 32 [a0, a1, some (.int z)] (.int z :: st) M x := Rs_next c82_31 rfl
theorem c82_32 : qx_code 82 32 = some (32, .invokevirtual 30, 35, 81, 2, 1381) := by decide +kernel
theorem s82_32 {L : Nat} {xs : Nat → Int32} {d x : Nat} {M : qxM} {st : List Value} {ls : qxL} {t : Nat} {z0 : Int32} (hk : qx_kd t = 15) (hs : st.length ≤ 4) : Rs L xs (d + 1) 82 32 ls (.int z0 :: .ref t :: st) M x = (Rs L xs d 81 0 [some (.ref t), some (.int z0)] [] M 0).bind (qx_kn L xs (d + 1) 82 32 35 81 ls st x) := by
  have h1 : qx_act L xs (qx_rt 82) (32, .invokevirtual 30, 35, 81, 2, 1381) ls (.int z0 :: .ref t :: st) M = if 2 ≤ (.int z0 :: .ref t :: st).length ∧ st.length ≤ 4 then some (.inr (.inr (.inr (81, [.ref t, .int z0], st)))) else none := rfl
  rw [if_pos ⟨by simp [List.length_cons]; try omega, hs⟩] at h1
  have h2 := qx_kd_obj (k := 5) (by decide) hk
  exact Rs_call c82_32 h1 (by rw [show qx_args 81 [.ref t, .int z0] = decide (qx_sh t = some (.inl 5)) from rfl]; exact decide_eq_true h2)
theorem c82_35 : qx_code 82 35 = some (35, .iinc 2 1, 38, 0, 0, 0) := by decide +kernel
theorem s82_35i {L : Nat} {xs : Nat → Int32} {d x : Nat} {M : qxM} {st : List Value} {a0 : Option Value} {z : Int32} {y : Int32} : Rs L xs (d) 82 35 [a0, some (.int y), some (.int z)] st M x = Rs L xs (d) 82 38 [a0, some (.int y), some (.int (z + (nI 1)))] st M x := Rs_next c82_35 rfl
theorem s82_35r {L : Nat} {xs : Nat → Int32} {d x : Nat} {M : qxM} {st : List Value} {a0 : Option Value} {z : Int32} {y : Nat} : Rs L xs (d) 82 35 [a0, some (.ref y), some (.int z)] st M x = Rs L xs (d) 82 38 [a0, some (.ref y), some (.int (z + (nI 1)))] st M x := Rs_next c82_35 rfl
theorem s82_35n {L : Nat} {xs : Nat → Int32} {d x : Nat} {M : qxM} {st : List Value} {a0 : Option Value} {z : Int32} : Rs L xs (d) 82 35 [a0, none, some (.int z)] st M x = Rs L xs (d) 82 38 [a0, none, some (.int (z + (nI 1)))] st M x := Rs_next c82_35 rfl
theorem c82_38 : qx_code 82 38 = some (38, .goto (-36), 41, 2, 0, 0) := by decide +kernel
theorem s82_38 {L : Nat} {xs : Nat → Int32} {d x : Nat} {M : qxM} {st : List Value} {ls : qxL} : Rs L xs (d) 82 38 ls st M x = Rs L xs (d) 82 2 ls st M x := Rs_next c82_38 rfl
theorem c82_41 : qx_code 82 41 = some (41, .return_, 42, 0, 0, 0) := by decide +kernel
theorem s82_41 {L : Nat} {xs : Nat → Int32} {d x : Nat} {M : qxM} {ls : qxL} : Rs L xs (d) 82 41 ls [] M x = some (.inl none, M, x) := Rs_ret c82_41 rfl
theorem c83_0 : qx_code 83 0 = some (0, .aload_n 0, 1, 0, 0, 0) := by decide +kernel
theorem s83_0 {L : Nat} {xs : Nat → Int32} {d x : Nat} {M : qxM} {st : List Value} {a1 : Option Value} {z : Nat} : Rs L xs (d) 83 0 [some (.ref z), a1] st M x = Rs L xs (d) 83 1 [some (.ref z), a1] (.ref z :: st) M x := Rs_next c83_0 rfl
theorem c83_1 : qx_code 83 1 = some (1, .getfield 15, 4, 5, 1, 240) := by decide +kernel
theorem s83_1 {L : Nat} {xs : Nat → Int32} {d x : Nat} {M : qxM} {st : List Value} {ls : qxL} {t : Nat} (hk : qx_kd t = 15) : Rs L xs (d) 83 1 ls (.ref t :: st) M x = Rs L xs (d) 83 4 ls (.int (M.1 t 1) :: st) M x := Rs_when (qx_kd_obj (k := 5) (by decide) hk) c83_1 rfl
theorem c83_4 : qx_code 83 4 = some (4, .ifCond .le 8, 7, 12, 0, 0) := by decide +kernel
theorem s83_4 {L : Nat} {xs : Nat → Int32} {d x : Nat} {M : qxM} {st : List Value} {ls : qxL} {z : Int32} : Rs L xs (d) 83 4 ls (.int z :: st) M x = if z ≤ 0 then Rs L xs (d) 83 12 ls st M x else Rs L xs (d) 83 7 ls st M x := Rs_ite c83_4 rfl
theorem c83_7 : qx_code 83 7 = some (7, .aload_n 0, 8, 0, 0, 0) := by decide +kernel
theorem s83_7 {L : Nat} {xs : Nat → Int32} {d x : Nat} {M : qxM} {st : List Value} {a1 : Option Value} {z : Nat} : Rs L xs (d) 83 7 [some (.ref z), a1] st M x = Rs L xs (d) 83 8 [some (.ref z), a1] (.ref z :: st) M x := Rs_next c83_7 rfl
theorem c83_8 : qx_code 83 8 = some (8, .iload_n 1, 9, 0, 0, 0) := by decide +kernel
theorem s83_8 {L : Nat} {xs : Nat → Int32} {d x : Nat} {M : qxM} {st : List Value} {a0 : Option Value} {z : Int32} : Rs L xs (d) 83 8 [a0, some (.int z)] st M x = Rs L xs (d) 83 9 [a0, some (.int z)] (.int z :: st) M x := Rs_next c83_8 rfl
theorem c83_9 : qx_code 83 9 = some (9, .invokevirtual 19, 12, 80, 2, 1355) := by decide +kernel
theorem s83_9 {L : Nat} {xs : Nat → Int32} {d x : Nat} {M : qxM} {st : List Value} {ls : qxL} {t : Nat} {z0 : Int32} (hk : qx_kd t = 15) (hs : st.length ≤ 4) : Rs L xs (d + 1) 83 9 ls (.int z0 :: .ref t :: st) M x = (Rs L xs d 80 0 [some (.ref t), some (.int z0)] [] M 0).bind (qx_kn L xs (d + 1) 83 9 12 80 ls st x) := by
  have h1 : qx_act L xs (qx_rt 83) (9, .invokevirtual 19, 12, 80, 2, 1355) ls (.int z0 :: .ref t :: st) M = if 2 ≤ (.int z0 :: .ref t :: st).length ∧ st.length ≤ 4 then some (.inr (.inr (.inr (80, [.ref t, .int z0], st)))) else none := rfl
  rw [if_pos ⟨by simp [List.length_cons]; try omega, hs⟩] at h1
  have h2 := qx_kd_obj (k := 5) (by decide) hk
  exact Rs_call c83_9 h1 (by rw [show qx_args 80 [.ref t, .int z0] = decide (qx_sh t = some (.inl 5)) from rfl]; exact decide_eq_true h2)
theorem c83_12 : qx_code 83 12 = some (12, .return_, 13, 0, 0, 0) := by decide +kernel
theorem s83_12 {L : Nat} {xs : Nat → Int32} {d x : Nat} {M : qxM} {ls : qxL} : Rs L xs (d) 83 12 ls [] M x = some (.inl none, M, x) := Rs_ret c83_12 rfl
theorem c84_0 : qx_code 84 0 = some (0, .aload_n 0, 1, 0, 0, 0) := by decide +kernel
theorem s84_0 {L : Nat} {xs : Nat → Int32} {d x : Nat} {M : qxM} {st : List Value} {z : Nat} : Rs L xs (d) 84 0 [some (.ref z)] st M x = Rs L xs (d) 84 1 [some (.ref z)] (.ref z :: st) M x := Rs_next c84_0 rfl
theorem c84_1 : qx_code 84 1 = some (1, .getfield 15, 4, 5, 1, 240) := by decide +kernel
theorem s84_1 {L : Nat} {xs : Nat → Int32} {d x : Nat} {M : qxM} {st : List Value} {ls : qxL} {t : Nat} (hk : qx_kd t = 15) : Rs L xs (d) 84 1 ls (.ref t :: st) M x = Rs L xs (d) 84 4 ls (.int (M.1 t 1) :: st) M x := Rs_when (qx_kd_obj (k := 5) (by decide) hk) c84_1 rfl
theorem c84_4 : qx_code 84 4 = some (4, .ifCond .ne 9, 7, 13, 0, 0) := by decide +kernel
theorem s84_4 {L : Nat} {xs : Nat → Int32} {d x : Nat} {M : qxM} {st : List Value} {ls : qxL} {z : Int32} : Rs L xs (d) 84 4 ls (.int z :: st) M x = if z = 0 then Rs L xs (d) 84 7 ls st M x else Rs L xs (d) 84 13 ls st M x := Rs_ite c84_4 rfl
theorem c84_7 : qx_code 84 7 = some (7, .aload_n 0, 8, 0, 0, 0) := by decide +kernel
theorem s84_7 {L : Nat} {xs : Nat → Int32} {d x : Nat} {M : qxM} {st : List Value} {z : Nat} : Rs L xs (d) 84 7 [some (.ref z)] st M x = Rs L xs (d) 84 8 [some (.ref z)] (.ref z :: st) M x := Rs_next c84_7 rfl
theorem c84_8 : qx_code 84 8 = some (8, .bipush 46, 10, 0, 0, 0) := by decide +kernel
theorem s84_8 {L : Nat} {xs : Nat → Int32} {d x : Nat} {M : qxM} {st : List Value} {ls : qxL} : Rs L xs (d) 84 8 ls st M x = Rs L xs (d) 84 10 ls (.int (nI 46) :: st) M x := Rs_next c84_8 rfl
theorem c84_10 : qx_code 84 10 = some (10, .invokevirtual 19, 13, 80, 2, 1355) := by decide +kernel
theorem s84_10 {L : Nat} {xs : Nat → Int32} {d x : Nat} {M : qxM} {st : List Value} {ls : qxL} {t : Nat} {z0 : Int32} (hk : qx_kd t = 15) (hs : st.length ≤ 4) : Rs L xs (d + 1) 84 10 ls (.int z0 :: .ref t :: st) M x = (Rs L xs d 80 0 [some (.ref t), some (.int z0)] [] M 0).bind (qx_kn L xs (d + 1) 84 10 13 80 ls st x) := by
  have h1 : qx_act L xs (qx_rt 84) (10, .invokevirtual 19, 13, 80, 2, 1355) ls (.int z0 :: .ref t :: st) M = if 2 ≤ (.int z0 :: .ref t :: st).length ∧ st.length ≤ 4 then some (.inr (.inr (.inr (80, [.ref t, .int z0], st)))) else none := rfl
  rw [if_pos ⟨by simp [List.length_cons]; try omega, hs⟩] at h1
  have h2 := qx_kd_obj (k := 5) (by decide) hk
  exact Rs_call c84_10 h1 (by rw [show qx_args 80 [.ref t, .int z0] = decide (qx_sh t = some (.inl 5)) from rfl]; exact decide_eq_true h2)
theorem c84_13 : qx_code 84 13 = some (13, .aload_n 0, 14, 0, 0, 0) := by decide +kernel
theorem s84_13 {L : Nat} {xs : Nat → Int32} {d x : Nat} {M : qxM} {st : List Value} {z : Nat} : Rs L xs (d) 84 13 [some (.ref z)] st M x = Rs L xs (d) 84 14 [some (.ref z)] (.ref z :: st) M x := Rs_next c84_13 rfl
theorem c84_14 : qx_code 84 14 = some (14, .getfield 15, 17, 5, 1, 240) := by decide +kernel
theorem s84_14 {L : Nat} {xs : Nat → Int32} {d x : Nat} {M : qxM} {st : List Value} {ls : qxL} {t : Nat} (hk : qx_kd t = 15) : Rs L xs (d) 84 14 ls (.ref t :: st) M x = Rs L xs (d) 84 17 ls (.int (M.1 t 1) :: st) M x := Rs_when (qx_kd_obj (k := 5) (by decide) hk) c84_14 rfl
theorem c84_17 : qx_code 84 17 = some (17, .ireturn, 18, 0, 0, 0) := by decide +kernel
theorem s84_17 {L : Nat} {xs : Nat → Int32} {d x : Nat} {M : qxM} {ls : qxL} {z : Int32} : Rs L xs (d) 84 17 ls [.int z] M x = some (.inl (some (.int z)), M, x) := Rs_ret c84_17 rfl
theorem c85_0 : qx_code 85 0 = some (0, .aload_n 0, 1, 0, 0, 0) := by decide +kernel
theorem s85_0 {L : Nat} {xs : Nat → Int32} {d x : Nat} {M : qxM} {st : List Value} {z : Nat} : Rs L xs (d) 85 0 [some (.ref z)] st M x = Rs L xs (d) 85 1 [some (.ref z)] (.ref z :: st) M x := Rs_next c85_0 rfl
theorem c85_1 : qx_code 85 1 = some (1, .getfield 15, 4, 6, 1, 290) := by decide +kernel
theorem s85_1 {L : Nat} {xs : Nat → Int32} {d x : Nat} {M : qxM} {st : List Value} {ls : qxL} {t : Nat} (hk : qx_kd t = 16) : Rs L xs (d) 85 1 ls (.ref t :: st) M x = Rs L xs (d) 85 4 ls (.ref (t + 2) :: st) M x := Rs_when (qx_kd_obj (k := 6) (by decide) hk) c85_1 rfl
theorem c85_4 : qx_code 85 4 = some (4, .iconst 0, 5, 0, 0, 0) := by decide +kernel
theorem s85_4 {L : Nat} {xs : Nat → Int32} {d x : Nat} {M : qxM} {st : List Value} {ls : qxL} : Rs L xs (d) 85 4 ls st M x = Rs L xs (d) 85 5 ls (.int (nI 0) :: st) M x := Rs_next c85_4 rfl
theorem c85_5 : qx_code 85 5 = some (5, .invokestatic 18, 8, 175, 2, 1247) := by decide +kernel
theorem s85_5 {L : Nat} {xs : Nat → Int32} {d x : Nat} {M : qxM} {st : List Value} {ls : qxL} {z0 : Nat} {z1 : Int32} (hs : st.length ≤ 4) : Rs L xs (d + 1) 85 5 ls (.int z1 :: .ref z0 :: st) M x = (Rs L xs d 175 0 [some (.ref z0), some (.int z1), none] [] M 0).bind (qx_kn L xs (d + 1) 85 5 8 175 ls st x) := by
  have h1 : qx_act L xs (qx_rt 85) (5, .invokestatic 18, 8, 175, 2, 1247) ls (.int z1 :: .ref z0 :: st) M = if 2 ≤ (.int z1 :: .ref z0 :: st).length ∧ st.length ≤ 4 then some (.inr (.inr (.inr (175, [.ref z0, .int z1], st)))) else none := rfl
  rw [if_pos ⟨by simp [List.length_cons]; try omega, hs⟩] at h1
  exact Rs_call c85_5 h1 rfl
theorem c85_8 : qx_code 85 8 = some (8, .return_, 9, 0, 0, 0) := by decide +kernel
theorem s85_8 {L : Nat} {xs : Nat → Int32} {d x : Nat} {M : qxM} {ls : qxL} : Rs L xs (d) 85 8 ls [] M x = some (.inl none, M, x) := Rs_ret c85_8 rfl
theorem c86_0 : qx_code 86 0 = some (0, .aload_n 1, 1, 0, 0, 0) := by decide +kernel
theorem s86_0 {L : Nat} {xs : Nat → Int32} {d x : Nat} {M : qxM} {st : List Value} {a0 : Option Value} {z : Nat} : Rs L xs (d) 86 0 [a0, some (.ref z)] st M x = Rs L xs (d) 86 1 [a0, some (.ref z)] (.ref z :: st) M x := Rs_next c86_0 rfl
theorem c86_1 : qx_code 86 1 = some (1, .getfield 9, 4, 6, 0, 289) := by decide +kernel
theorem s86_1 {L : Nat} {xs : Nat → Int32} {d x : Nat} {M : qxM} {st : List Value} {ls : qxL} {t : Nat} (hk : qx_kd t = 16) : Rs L xs (d) 86 1 ls (.ref t :: st) M x = Rs L xs (d) 86 4 ls (.ref (t + 1) :: st) M x := Rs_when (qx_kd_obj (k := 6) (by decide) hk) c86_1 rfl
theorem c86_4 : qx_code 86 4 = some (4, .aload_n 0, 5, 0, 0, 0) := by decide +kernel
theorem s86_4 {L : Nat} {xs : Nat → Int32} {d x : Nat} {M : qxM} {st : List Value} {a1 : Option Value} {z : Nat} : Rs L xs (d) 86 4 [some (.ref z), a1] st M x = Rs L xs (d) 86 5 [some (.ref z), a1] (.ref z :: st) M x := Rs_next c86_4 rfl
theorem c86_5 : qx_code 86 5 = some (5, .getfield 9, 8, 6, 0, 289) := by decide +kernel
theorem s86_5 {L : Nat} {xs : Nat → Int32} {d x : Nat} {M : qxM} {st : List Value} {ls : qxL} {t : Nat} (hk : qx_kd t = 16) : Rs L xs (d) 86 5 ls (.ref t :: st) M x = Rs L xs (d) 86 8 ls (.ref (t + 1) :: st) M x := Rs_when (qx_kd_obj (k := 6) (by decide) hk) c86_5 rfl
theorem c86_8 : qx_code 86 8 = some (8, .invokestatic 22, 11, 176, 2, 1426) := by decide +kernel
theorem s86_8 {L : Nat} {xs : Nat → Int32} {d x : Nat} {M : qxM} {st : List Value} {ls : qxL} {z0 : Nat} {z1 : Nat} (hs : st.length ≤ 4) : Rs L xs (d + 1) 86 8 ls (.ref z1 :: .ref z0 :: st) M x = (Rs L xs d 176 0 [some (.ref z0), some (.ref z1)] [] M 0).bind (qx_kn L xs (d + 1) 86 8 11 176 ls st x) := by
  have h1 : qx_act L xs (qx_rt 86) (8, .invokestatic 22, 11, 176, 2, 1426) ls (.ref z1 :: .ref z0 :: st) M = if 2 ≤ (.ref z1 :: .ref z0 :: st).length ∧ st.length ≤ 4 then some (.inr (.inr (.inr (176, [.ref z0, .ref z1], st)))) else none := rfl
  rw [if_pos ⟨by simp [List.length_cons]; try omega, hs⟩] at h1
  exact Rs_call c86_8 h1 rfl
theorem c86_11 : qx_code 86 11 = some (11, .aload_n 1, 12, 0, 0, 0) := by decide +kernel
theorem s86_11 {L : Nat} {xs : Nat → Int32} {d x : Nat} {M : qxM} {st : List Value} {a0 : Option Value} {z : Nat} : Rs L xs (d) 86 11 [a0, some (.ref z)] st M x = Rs L xs (d) 86 12 [a0, some (.ref z)] (.ref z :: st) M x := Rs_next c86_11 rfl
theorem c86_12 : qx_code 86 12 = some (12, .getfield 15, 15, 6, 1, 290) := by decide +kernel
theorem s86_12 {L : Nat} {xs : Nat → Int32} {d x : Nat} {M : qxM} {st : List Value} {ls : qxL} {t : Nat} (hk : qx_kd t = 16) : Rs L xs (d) 86 12 ls (.ref t :: st) M x = Rs L xs (d) 86 15 ls (.ref (t + 2) :: st) M x := Rs_when (qx_kd_obj (k := 6) (by decide) hk) c86_12 rfl
theorem c86_15 : qx_code 86 15 = some (15, .aload_n 0, 16, 0, 0, 0) := by decide +kernel
theorem s86_15 {L : Nat} {xs : Nat → Int32} {d x : Nat} {M : qxM} {st : List Value} {a1 : Option Value} {z : Nat} : Rs L xs (d) 86 15 [some (.ref z), a1] st M x = Rs L xs (d) 86 16 [some (.ref z), a1] (.ref z :: st) M x := Rs_next c86_15 rfl
theorem c86_16 : qx_code 86 16 = some (16, .getfield 15, 19, 6, 1, 290) := by decide +kernel
theorem s86_16 {L : Nat} {xs : Nat → Int32} {d x : Nat} {M : qxM} {st : List Value} {ls : qxL} {t : Nat} (hk : qx_kd t = 16) : Rs L xs (d) 86 16 ls (.ref t :: st) M x = Rs L xs (d) 86 19 ls (.ref (t + 2) :: st) M x := Rs_when (qx_kd_obj (k := 6) (by decide) hk) c86_16 rfl
theorem c86_19 : qx_code 86 19 = some (19, .invokestatic 22, 22, 176, 2, 1426) := by decide +kernel
theorem s86_19 {L : Nat} {xs : Nat → Int32} {d x : Nat} {M : qxM} {st : List Value} {ls : qxL} {z0 : Nat} {z1 : Nat} (hs : st.length ≤ 4) : Rs L xs (d + 1) 86 19 ls (.ref z1 :: .ref z0 :: st) M x = (Rs L xs d 176 0 [some (.ref z0), some (.ref z1)] [] M 0).bind (qx_kn L xs (d + 1) 86 19 22 176 ls st x) := by
  have h1 : qx_act L xs (qx_rt 86) (19, .invokestatic 22, 22, 176, 2, 1426) ls (.ref z1 :: .ref z0 :: st) M = if 2 ≤ (.ref z1 :: .ref z0 :: st).length ∧ st.length ≤ 4 then some (.inr (.inr (.inr (176, [.ref z0, .ref z1], st)))) else none := rfl
  rw [if_pos ⟨by simp [List.length_cons]; try omega, hs⟩] at h1
  exact Rs_call c86_19 h1 rfl
theorem c86_22 : qx_code 86 22 = some (22, .return_, 23, 0, 0, 0) := by decide +kernel
theorem s86_22 {L : Nat} {xs : Nat → Int32} {d x : Nat} {M : qxM} {ls : qxL} : Rs L xs (d) 86 22 ls [] M x = some (.inl none, M, x) := Rs_ret c86_22 rfl
theorem c87_0 : qx_code 87 0 = some (0, .iload_n 1, 1, 0, 0, 0) := by decide +kernel
theorem s87_0 {L : Nat} {xs : Nat → Int32} {d x : Nat} {M : qxM} {st : List Value} {a0 : Option Value} {z : Int32} : Rs L xs (d) 87 0 [a0, some (.int z)] st M x = Rs L xs (d) 87 1 [a0, some (.int z)] (.int z :: st) M x := Rs_next c87_0 rfl
theorem c87_1 : qx_code 87 1 = some (1, .ifCond .lt 21, 4, 22, 0, 0) := by decide +kernel
theorem s87_1 {L : Nat} {xs : Nat → Int32} {d x : Nat} {M : qxM} {st : List Value} {ls : qxL} {z : Int32} : Rs L xs (d) 87 1 ls (.int z :: st) M x = if z < 0 then Rs L xs (d) 87 22 ls st M x else Rs L xs (d) 87 4 ls st M x := Rs_ite c87_1 rfl
theorem c87_4 : qx_code 87 4 = some (4, .iload_n 1, 5, 0, 0, 0) := by decide +kernel
theorem s87_4 {L : Nat} {xs : Nat → Int32} {d x : Nat} {M : qxM} {st : List Value} {a0 : Option Value} {z : Int32} : Rs L xs (d) 87 4 [a0, some (.int z)] st M x = Rs L xs (d) 87 5 [a0, some (.int z)] (.int z :: st) M x := Rs_next c87_4 rfl
theorem c87_5 : qx_code 87 5 = some (5, .aload_n 0, 6, 0, 0, 0) := by decide +kernel
theorem s87_5 {L : Nat} {xs : Nat → Int32} {d x : Nat} {M : qxM} {st : List Value} {a1 : Option Value} {z : Nat} : Rs L xs (d) 87 5 [some (.ref z), a1] st M x = Rs L xs (d) 87 6 [some (.ref z), a1] (.ref z :: st) M x := Rs_next c87_5 rfl
theorem c87_6 : qx_code 87 6 = some (6, .getfield 15, 9, 6, 1, 290) := by decide +kernel
theorem s87_6 {L : Nat} {xs : Nat → Int32} {d x : Nat} {M : qxM} {st : List Value} {ls : qxL} {t : Nat} (hk : qx_kd t = 16) : Rs L xs (d) 87 6 ls (.ref t :: st) M x = Rs L xs (d) 87 9 ls (.ref (t + 2) :: st) M x := Rs_when (qx_kd_obj (k := 6) (by decide) hk) c87_6 rfl
theorem c87_9 : qx_code 87 9 = some (9, .arraylength, 10, 0, 0, 0) := by decide +kernel
theorem s87_9 {L : Nat} {xs : Nat → Int32} {d x : Nat} {M : qxM} {st : List Value} {ls : qxL} {t : Nat} (hk : qx_kd t < 6) : Rs L xs (d) 87 9 ls (.ref t :: st) M x = Rs L xs (d) 87 10 ls (.int (nI (qx_ln t)) :: st) M x := by
  have h1 := qx_kd_row hk rfl
  exact Rs_next c87_9 (by unfold qx_act; dsimp only; rw [h1]; rfl)
theorem c87_10 : qx_code 87 10 = some (10, .if_icmp .ge 12, 13, 22, 0, 0) := by decide +kernel
theorem s87_10 {L : Nat} {xs : Nat → Int32} {d x : Nat} {M : qxM} {st : List Value} {ls : qxL} {z y : Int32} : Rs L xs (d) 87 10 ls (.int y :: .int z :: st) M x = if y ≤ z then Rs L xs (d) 87 22 ls st M x else Rs L xs (d) 87 13 ls st M x := Rs_ite c87_10 rfl
theorem c87_13 : qx_code 87 13 = some (13, .aload_n 0, 14, 0, 0, 0) := by decide +kernel
theorem s87_13 {L : Nat} {xs : Nat → Int32} {d x : Nat} {M : qxM} {st : List Value} {a1 : Option Value} {z : Nat} : Rs L xs (d) 87 13 [some (.ref z), a1] st M x = Rs L xs (d) 87 14 [some (.ref z), a1] (.ref z :: st) M x := Rs_next c87_13 rfl
theorem c87_14 : qx_code 87 14 = some (14, .getfield 15, 17, 6, 1, 290) := by decide +kernel
theorem s87_14 {L : Nat} {xs : Nat → Int32} {d x : Nat} {M : qxM} {st : List Value} {ls : qxL} {t : Nat} (hk : qx_kd t = 16) : Rs L xs (d) 87 14 ls (.ref t :: st) M x = Rs L xs (d) 87 17 ls (.ref (t + 2) :: st) M x := Rs_when (qx_kd_obj (k := 6) (by decide) hk) c87_14 rfl
theorem c87_17 : qx_code 87 17 = some (17, .iload_n 1, 18, 0, 0, 0) := by decide +kernel
theorem s87_17 {L : Nat} {xs : Nat → Int32} {d x : Nat} {M : qxM} {st : List Value} {a0 : Option Value} {z : Int32} : Rs L xs (d) 87 17 [a0, some (.int z)] st M x = Rs L xs (d) 87 18 [a0, some (.int z)] (.int z :: st) M x := Rs_next c87_17 rfl
theorem c87_18 : qx_code 87 18 = some (18, .iaload, 19, 0, 0, 0) := by decide +kernel
theorem s87_18 {L : Nat} {xs : Nat → Int32} {d x : Nat} {M : qxM} {st : List Value} {ls : qxL} {t : Nat} {j : Int32} (hk : qx_kd t = 0) (hj : qx_ib j (qx_ln t) = true) : Rs L xs (d) 87 18 ls (.int j :: .ref t :: st) M x = Rs L xs (d) 87 19 ls (.int (M.1 t j.toNatClampNeg) :: st) M x := by
  have h1 := qx_kd_row (k := 0) (by decide) hk
  exact Rs_unless (qx_ib_not hj) c87_18 (by unfold qx_act; dsimp only; rw [h1]; rfl)
theorem c87_19 : qx_code 87 19 = some (19, .goto 4, 22, 23, 0, 0) := by decide +kernel
theorem s87_19 {L : Nat} {xs : Nat → Int32} {d x : Nat} {M : qxM} {st : List Value} {ls : qxL} : Rs L xs (d) 87 19 ls st M x = Rs L xs (d) 87 23 ls st M x := Rs_next c87_19 rfl
theorem c87_22 : qx_code 87 22 = some (22, .iconst 0, 23, 0, 0, 0) := by decide +kernel
theorem s87_22 {L : Nat} {xs : Nat → Int32} {d x : Nat} {M : qxM} {st : List Value} {ls : qxL} : Rs L xs (d) 87 22 ls st M x = Rs L xs (d) 87 23 ls (.int (nI 0) :: st) M x := Rs_next c87_22 rfl
theorem c87_23 : qx_code 87 23 = some (23, .ireturn, 24, 0, 0, 0) := by decide +kernel
theorem s87_23 {L : Nat} {xs : Nat → Int32} {d x : Nat} {M : qxM} {ls : qxL} {z : Int32} : Rs L xs (d) 87 23 ls [.int z] M x = some (.inl (some (.int z)), M, x) := Rs_ret c87_23 rfl
theorem c88_0 : qx_code 88 0 = some (0, .iload_n 2, 1, 0, 0, 0) := by decide +kernel
theorem s88_0 {L : Nat} {xs : Nat → Int32} {d x : Nat} {M : qxM} {st : List Value} {a0 a1 : Option Value} {z : Int32} : Rs L xs (d) 88 0 [a0, a1, some (.int z)] st M x = Rs L xs (d) 88 1 [a0, a1, some (.int z)] (.int z :: st) M x := Rs_next c88_0 rfl
theorem c88_1 : qx_code 88 1 = some (1, .ifCond .lt 28, 4, 29, 0, 0) := by decide +kernel
theorem s88_1 {L : Nat} {xs : Nat → Int32} {d x : Nat} {M : qxM} {st : List Value} {ls : qxL} {z : Int32} : Rs L xs (d) 88 1 ls (.int z :: st) M x = if z < 0 then Rs L xs (d) 88 29 ls st M x else Rs L xs (d) 88 4 ls st M x := Rs_ite c88_1 rfl
theorem c88_4 : qx_code 88 4 = some (4, .iload_n 2, 5, 0, 0, 0) := by decide +kernel
theorem s88_4 {L : Nat} {xs : Nat → Int32} {d x : Nat} {M : qxM} {st : List Value} {a0 a1 : Option Value} {z : Int32} : Rs L xs (d) 88 4 [a0, a1, some (.int z)] st M x = Rs L xs (d) 88 5 [a0, a1, some (.int z)] (.int z :: st) M x := Rs_next c88_4 rfl
theorem c88_5 : qx_code 88 5 = some (5, .aload_n 0, 6, 0, 0, 0) := by decide +kernel
theorem s88_5 {L : Nat} {xs : Nat → Int32} {d x : Nat} {M : qxM} {st : List Value} {a1 a2 : Option Value} {z : Nat} : Rs L xs (d) 88 5 [some (.ref z), a1, a2] st M x = Rs L xs (d) 88 6 [some (.ref z), a1, a2] (.ref z :: st) M x := Rs_next c88_5 rfl
theorem c88_6 : qx_code 88 6 = some (6, .iload_n 1, 7, 0, 0, 0) := by decide +kernel
theorem s88_6 {L : Nat} {xs : Nat → Int32} {d x : Nat} {M : qxM} {st : List Value} {a0 a2 : Option Value} {z : Int32} : Rs L xs (d) 88 6 [a0, some (.int z), a2] st M x = Rs L xs (d) 88 7 [a0, some (.int z), a2] (.int z :: st) M x := Rs_next c88_6 rfl
theorem c88_7 : qx_code 88 7 = some (7, .invokevirtual 26, 10, 87, 2, 960) := by decide +kernel
theorem s88_7 {L : Nat} {xs : Nat → Int32} {d x : Nat} {M : qxM} {st : List Value} {ls : qxL} {t : Nat} {z0 : Int32} (hk : qx_kd t = 16) (hs : st.length ≤ 4) : Rs L xs (d + 1) 88 7 ls (.int z0 :: .ref t :: st) M x = (Rs L xs d 87 0 [some (.ref t), some (.int z0)] [] M 0).bind (qx_kn L xs (d + 1) 88 7 10 87 ls st x) := by
  have h1 : qx_act L xs (qx_rt 88) (7, .invokevirtual 26, 10, 87, 2, 960) ls (.int z0 :: .ref t :: st) M = if 2 ≤ (.int z0 :: .ref t :: st).length ∧ st.length ≤ 4 then some (.inr (.inr (.inr (87, [.ref t, .int z0], st)))) else none := rfl
  rw [if_pos ⟨by simp [List.length_cons]; try omega, hs⟩] at h1
  have h2 := qx_kd_obj (k := 6) (by decide) hk
  exact Rs_call c88_7 h1 (by rw [show qx_args 87 [.ref t, .int z0] = decide (qx_sh t = some (.inl 6)) from rfl]; exact decide_eq_true h2)
theorem c88_10 : qx_code 88 10 = some (10, .if_icmp .ge 19, 13, 29, 0, 0) := by decide +kernel
theorem s88_10 {L : Nat} {xs : Nat → Int32} {d x : Nat} {M : qxM} {st : List Value} {ls : qxL} {z y : Int32} : Rs L xs (d) 88 10 ls (.int y :: .int z :: st) M x = if y ≤ z then Rs L xs (d) 88 29 ls st M x else Rs L xs (d) 88 13 ls st M x := Rs_ite c88_10 rfl
theorem c88_13 : qx_code 88 13 = some (13, .aload_n 0, 14, 0, 0, 0) := by decide +kernel
theorem s88_13 {L : Nat} {xs : Nat → Int32} {d x : Nat} {M : qxM} {st : List Value} {a1 a2 : Option Value} {z : Nat} : Rs L xs (d) 88 13 [some (.ref z), a1, a2] st M x = Rs L xs (d) 88 14 [some (.ref z), a1, a2] (.ref z :: st) M x := Rs_next c88_13 rfl
theorem c88_14 : qx_code 88 14 = some (14, .getfield 9, 17, 6, 0, 289) := by decide +kernel
theorem s88_14 {L : Nat} {xs : Nat → Int32} {d x : Nat} {M : qxM} {st : List Value} {ls : qxL} {t : Nat} (hk : qx_kd t = 16) : Rs L xs (d) 88 14 ls (.ref t :: st) M x = Rs L xs (d) 88 17 ls (.ref (t + 1) :: st) M x := Rs_when (qx_kd_obj (k := 6) (by decide) hk) c88_14 rfl
theorem c88_17 : qx_code 88 17 = some (17, .iload_n 1, 18, 0, 0, 0) := by decide +kernel
theorem s88_17 {L : Nat} {xs : Nat → Int32} {d x : Nat} {M : qxM} {st : List Value} {a0 a2 : Option Value} {z : Int32} : Rs L xs (d) 88 17 [a0, some (.int z), a2] st M x = Rs L xs (d) 88 18 [a0, some (.int z), a2] (.int z :: st) M x := Rs_next c88_17 rfl
theorem c88_18 : qx_code 88 18 = some (18, .bipush 14, 20, 0, 0, 0) := by decide +kernel
theorem s88_18 {L : Nat} {xs : Nat → Int32} {d x : Nat} {M : qxM} {st : List Value} {ls : qxL} : Rs L xs (d) 88 18 ls st M x = Rs L xs (d) 88 20 ls (.int (nI 14) :: st) M x := Rs_next c88_18 rfl
theorem c88_20 : qx_code 88 20 = some (20, .imul, 21, 0, 0, 0) := by decide +kernel
theorem s88_20 {L : Nat} {xs : Nat → Int32} {d x : Nat} {M : qxM} {st : List Value} {ls : qxL} {z y : Int32} : Rs L xs (d) 88 20 ls (.int y :: .int z :: st) M x = Rs L xs (d) 88 21 ls (.int (z * y) :: st) M x := Rs_next c88_20 rfl
theorem c88_21 : qx_code 88 21 = some (21, .iload_n 2, 22, 0, 0, 0) := by decide +kernel
theorem s88_21 {L : Nat} {xs : Nat → Int32} {d x : Nat} {M : qxM} {st : List Value} {a0 a1 : Option Value} {z : Int32} : Rs L xs (d) 88 21 [a0, a1, some (.int z)] st M x = Rs L xs (d) 88 22 [a0, a1, some (.int z)] (.int z :: st) M x := Rs_next c88_21 rfl
theorem c88_22 : qx_code 88 22 = some (22, .iadd, 23, 0, 0, 0) := by decide +kernel
theorem s88_22 {L : Nat} {xs : Nat → Int32} {d x : Nat} {M : qxM} {st : List Value} {ls : qxL} {z y : Int32} : Rs L xs (d) 88 22 ls (.int y :: .int z :: st) M x = Rs L xs (d) 88 23 ls (.int (z + y) :: st) M x := Rs_next c88_22 rfl
theorem c88_23 : qx_code 88 23 = some (23, .invokestatic 30, 26, 173, 2, 961) := by decide +kernel
theorem s88_23 {L : Nat} {xs : Nat → Int32} {d x : Nat} {M : qxM} {st : List Value} {ls : qxL} {z0 : Nat} {z1 : Int32} (hs : st.length ≤ 4) : Rs L xs (d + 1) 88 23 ls (.int z1 :: .ref z0 :: st) M x = (Rs L xs d 173 0 [some (.ref z0), some (.int z1)] [] M 0).bind (qx_kn L xs (d + 1) 88 23 26 173 ls st x) := by
  have h1 : qx_act L xs (qx_rt 88) (23, .invokestatic 30, 26, 173, 2, 961) ls (.int z1 :: .ref z0 :: st) M = if 2 ≤ (.int z1 :: .ref z0 :: st).length ∧ st.length ≤ 4 then some (.inr (.inr (.inr (173, [.ref z0, .int z1], st)))) else none := rfl
  rw [if_pos ⟨by simp [List.length_cons]; try omega, hs⟩] at h1
  exact Rs_call c88_23 h1 rfl
theorem c88_26 : qx_code 88 26 = some (26, .goto 4, 29, 30, 0, 0) := by decide +kernel
theorem s88_26 {L : Nat} {xs : Nat → Int32} {d x : Nat} {M : qxM} {st : List Value} {ls : qxL} : Rs L xs (d) 88 26 ls st M x = Rs L xs (d) 88 30 ls st M x := Rs_next c88_26 rfl
theorem c88_29 : qx_code 88 29 = some (29, .iconst (-1), 30, 0, 0, 0) := by decide +kernel
theorem s88_29 {L : Nat} {xs : Nat → Int32} {d x : Nat} {M : qxM} {st : List Value} {ls : qxL} : Rs L xs (d) 88 29 ls st M x = Rs L xs (d) 88 30 ls (.int (-1) :: st) M x := Rs_next c88_29 rfl
theorem c88_30 : qx_code 88 30 = some (30, .ireturn, 31, 0, 0, 0) := by decide +kernel
theorem s88_30 {L : Nat} {xs : Nat → Int32} {d x : Nat} {M : qxM} {ls : qxL} {z : Int32} : Rs L xs (d) 88 30 ls [.int z] M x = some (.inl (some (.int z)), M, x) := Rs_ret c88_30 rfl
theorem c89_0 : qx_code 89 0 = some (0, .aload_n 0, 1, 0, 0, 0) := by decide +kernel
theorem s89_0 {L : Nat} {xs : Nat → Int32} {d x : Nat} {M : qxM} {st : List Value} {a1 a2 a3 : Option Value} {z : Nat} : Rs L xs (d) 89 0 [some (.ref z), a1, a2, a3] st M x = Rs L xs (d) 89 1 [some (.ref z), a1, a2, a3] (.ref z :: st) M x := Rs_next c89_0 rfl
theorem c89_1 : qx_code 89 1 = some (1, .iload_n 1, 2, 0, 0, 0) := by decide +kernel
theorem s89_1 {L : Nat} {xs : Nat → Int32} {d x : Nat} {M : qxM} {st : List Value} {a0 a2 a3 : Option Value} {z : Int32} : Rs L xs (d) 89 1 [a0, some (.int z), a2, a3] st M x = Rs L xs (d) 89 2 [a0, some (.int z), a2, a3] (.int z :: st) M x := Rs_next c89_1 rfl
theorem c89_2 : qx_code 89 2 = some (2, .invokevirtual 26, 5, 87, 2, 960) := by decide +kernel
theorem s89_2 {L : Nat} {xs : Nat → Int32} {d x : Nat} {M : qxM} {st : List Value} {ls : qxL} {t : Nat} {z0 : Int32} (hk : qx_kd t = 16) (hs : st.length ≤ 4) : Rs L xs (d + 1) 89 2 ls (.int z0 :: .ref t :: st) M x = (Rs L xs d 87 0 [some (.ref t), some (.int z0)] [] M 0).bind (qx_kn L xs (d + 1) 89 2 5 87 ls st x) := by
  have h1 : qx_act L xs (qx_rt 89) (2, .invokevirtual 26, 5, 87, 2, 960) ls (.int z0 :: .ref t :: st) M = if 2 ≤ (.int z0 :: .ref t :: st).length ∧ st.length ≤ 4 then some (.inr (.inr (.inr (87, [.ref t, .int z0], st)))) else none := rfl
  rw [if_pos ⟨by simp [List.length_cons]; try omega, hs⟩] at h1
  have h2 := qx_kd_obj (k := 6) (by decide) hk
  exact Rs_call c89_2 h1 (by rw [show qx_args 87 [.ref t, .int z0] = decide (qx_sh t = some (.inl 6)) from rfl]; exact decide_eq_true h2)
theorem c89_5 : qx_code 89 5 = some (5, .istore_n 3, 6, 0, 0, 0) := by decide +kernel
theorem s89_5i {L : Nat} {xs : Nat → Int32} {d x : Nat} {M : qxM} {st : List Value} {a0 a1 a3 : Option Value} {z : Int32} {y : Int32} : Rs L xs (d) 89 5 [a0, a1, some (.int y), a3] (.int z :: st) M x = Rs L xs (d) 89 6 [a0, a1, some (.int y), some (.int z)] st M x := Rs_next c89_5 rfl
theorem s89_5r {L : Nat} {xs : Nat → Int32} {d x : Nat} {M : qxM} {st : List Value} {a0 a1 a3 : Option Value} {z : Int32} {y : Nat} : Rs L xs (d) 89 5 [a0, a1, some (.ref y), a3] (.int z :: st) M x = Rs L xs (d) 89 6 [a0, a1, some (.ref y), some (.int z)] st M x := Rs_next c89_5 rfl
theorem s89_5n {L : Nat} {xs : Nat → Int32} {d x : Nat} {M : qxM} {st : List Value} {a0 a1 a3 : Option Value} {z : Int32} : Rs L xs (d) 89 5 [a0, a1, none, a3] (.int z :: st) M x = Rs L xs (d) 89 6 [a0, a1, none, some (.int z)] st M x := Rs_next c89_5 rfl
theorem c89_6 : qx_code 89 6 = some (6, .iload_n 3, 7, 0, 0, 0) := by decide +kernel
theorem s89_6 {L : Nat} {xs : Nat → Int32} {d x : Nat} {M : qxM} {st : List Value} {a0 a1 a2 : Option Value} {z : Int32} : Rs L xs (d) 89 6 [a0, a1, a2, some (.int z)] st M x = Rs L xs (d) 89 7 [a0, a1, a2, some (.int z)] (.int z :: st) M x := Rs_next c89_6 rfl
theorem c89_7 : qx_code 89 7 = some (7, .bipush 14, 9, 0, 0, 0) := by decide +kernel
theorem s89_7 {L : Nat} {xs : Nat → Int32} {d x : Nat} {M : qxM} {st : List Value} {ls : qxL} : Rs L xs (d) 89 7 ls st M x = Rs L xs (d) 89 9 ls (.int (nI 14) :: st) M x := Rs_next c89_7 rfl
theorem c89_9 : qx_code 89 9 = some (9, .if_icmp .ge 28, 12, 37, 0, 0) := by decide +kernel
theorem s89_9 {L : Nat} {xs : Nat → Int32} {d x : Nat} {M : qxM} {st : List Value} {ls : qxL} {z y : Int32} : Rs L xs (d) 89 9 ls (.int y :: .int z :: st) M x = if y ≤ z then Rs L xs (d) 89 37 ls st M x else Rs L xs (d) 89 12 ls st M x := Rs_ite c89_9 rfl
theorem c89_12 : qx_code 89 12 = some (12, .aload_n 0, 13, 0, 0, 0) := by decide +kernel
theorem s89_12 {L : Nat} {xs : Nat → Int32} {d x : Nat} {M : qxM} {st : List Value} {a1 a2 a3 : Option Value} {z : Nat} : Rs L xs (d) 89 12 [some (.ref z), a1, a2, a3] st M x = Rs L xs (d) 89 13 [some (.ref z), a1, a2, a3] (.ref z :: st) M x := Rs_next c89_12 rfl
theorem c89_13 : qx_code 89 13 = some (13, .getfield 9, 16, 6, 0, 289) := by decide +kernel
theorem s89_13 {L : Nat} {xs : Nat → Int32} {d x : Nat} {M : qxM} {st : List Value} {ls : qxL} {t : Nat} (hk : qx_kd t = 16) : Rs L xs (d) 89 13 ls (.ref t :: st) M x = Rs L xs (d) 89 16 ls (.ref (t + 1) :: st) M x := Rs_when (qx_kd_obj (k := 6) (by decide) hk) c89_13 rfl
theorem c89_16 : qx_code 89 16 = some (16, .iload_n 1, 17, 0, 0, 0) := by decide +kernel
theorem s89_16 {L : Nat} {xs : Nat → Int32} {d x : Nat} {M : qxM} {st : List Value} {a0 a2 a3 : Option Value} {z : Int32} : Rs L xs (d) 89 16 [a0, some (.int z), a2, a3] st M x = Rs L xs (d) 89 17 [a0, some (.int z), a2, a3] (.int z :: st) M x := Rs_next c89_16 rfl
theorem c89_17 : qx_code 89 17 = some (17, .bipush 14, 19, 0, 0, 0) := by decide +kernel
theorem s89_17 {L : Nat} {xs : Nat → Int32} {d x : Nat} {M : qxM} {st : List Value} {ls : qxL} : Rs L xs (d) 89 17 ls st M x = Rs L xs (d) 89 19 ls (.int (nI 14) :: st) M x := Rs_next c89_17 rfl
theorem c89_19 : qx_code 89 19 = some (19, .imul, 20, 0, 0, 0) := by decide +kernel
theorem s89_19 {L : Nat} {xs : Nat → Int32} {d x : Nat} {M : qxM} {st : List Value} {ls : qxL} {z y : Int32} : Rs L xs (d) 89 19 ls (.int y :: .int z :: st) M x = Rs L xs (d) 89 20 ls (.int (z * y) :: st) M x := Rs_next c89_19 rfl
theorem c89_20 : qx_code 89 20 = some (20, .iload_n 3, 21, 0, 0, 0) := by decide +kernel
theorem s89_20 {L : Nat} {xs : Nat → Int32} {d x : Nat} {M : qxM} {st : List Value} {a0 a1 a2 : Option Value} {z : Int32} : Rs L xs (d) 89 20 [a0, a1, a2, some (.int z)] st M x = Rs L xs (d) 89 21 [a0, a1, a2, some (.int z)] (.int z :: st) M x := Rs_next c89_20 rfl
theorem c89_21 : qx_code 89 21 = some (21, .iadd, 22, 0, 0, 0) := by decide +kernel
theorem s89_21 {L : Nat} {xs : Nat → Int32} {d x : Nat} {M : qxM} {st : List Value} {ls : qxL} {z y : Int32} : Rs L xs (d) 89 21 ls (.int y :: .int z :: st) M x = Rs L xs (d) 89 22 ls (.int (z + y) :: st) M x := Rs_next c89_21 rfl
theorem c89_22 : qx_code 89 22 = some (22, .iload_n 2, 23, 0, 0, 0) := by decide +kernel
theorem s89_22 {L : Nat} {xs : Nat → Int32} {d x : Nat} {M : qxM} {st : List Value} {a0 a1 a3 : Option Value} {z : Int32} : Rs L xs (d) 89 22 [a0, a1, some (.int z), a3] st M x = Rs L xs (d) 89 23 [a0, a1, some (.int z), a3] (.int z :: st) M x := Rs_next c89_22 rfl
theorem c89_23 : qx_code 89 23 = some (23, .invokestatic 34, 26, 174, 3, 1256) := by decide +kernel
theorem s89_23 {L : Nat} {xs : Nat → Int32} {d x : Nat} {M : qxM} {st : List Value} {ls : qxL} {z0 : Nat} {z1 : Int32} {z2 : Int32} (hs : st.length ≤ 4) : Rs L xs (d + 1) 89 23 ls (.int z2 :: .int z1 :: .ref z0 :: st) M x = (Rs L xs d 174 0 [some (.ref z0), some (.int z1), some (.int z2)] [] M 0).bind (qx_kn L xs (d + 1) 89 23 26 174 ls st x) := by
  have h1 : qx_act L xs (qx_rt 89) (23, .invokestatic 34, 26, 174, 3, 1256) ls (.int z2 :: .int z1 :: .ref z0 :: st) M = if 3 ≤ (.int z2 :: .int z1 :: .ref z0 :: st).length ∧ st.length ≤ 4 then some (.inr (.inr (.inr (174, [.ref z0, .int z1, .int z2], st)))) else none := rfl
  rw [if_pos ⟨by simp [List.length_cons]; try omega, hs⟩] at h1
  exact Rs_call c89_23 h1 rfl
theorem c89_26 : qx_code 89 26 = some (26, .aload_n 0, 27, 0, 0, 0) := by decide +kernel
theorem s89_26 {L : Nat} {xs : Nat → Int32} {d x : Nat} {M : qxM} {st : List Value} {a1 a2 a3 : Option Value} {z : Nat} : Rs L xs (d) 89 26 [some (.ref z), a1, a2, a3] st M x = Rs L xs (d) 89 27 [some (.ref z), a1, a2, a3] (.ref z :: st) M x := Rs_next c89_26 rfl
theorem c89_27 : qx_code 89 27 = some (27, .getfield 15, 30, 6, 1, 290) := by decide +kernel
theorem s89_27 {L : Nat} {xs : Nat → Int32} {d x : Nat} {M : qxM} {st : List Value} {ls : qxL} {t : Nat} (hk : qx_kd t = 16) : Rs L xs (d) 89 27 ls (.ref t :: st) M x = Rs L xs (d) 89 30 ls (.ref (t + 2) :: st) M x := Rs_when (qx_kd_obj (k := 6) (by decide) hk) c89_27 rfl
theorem c89_30 : qx_code 89 30 = some (30, .iload_n 1, 31, 0, 0, 0) := by decide +kernel
theorem s89_30 {L : Nat} {xs : Nat → Int32} {d x : Nat} {M : qxM} {st : List Value} {a0 a2 a3 : Option Value} {z : Int32} : Rs L xs (d) 89 30 [a0, some (.int z), a2, a3] st M x = Rs L xs (d) 89 31 [a0, some (.int z), a2, a3] (.int z :: st) M x := Rs_next c89_30 rfl
theorem c89_31 : qx_code 89 31 = some (31, .iload_n 3, 32, 0, 0, 0) := by decide +kernel
theorem s89_31 {L : Nat} {xs : Nat → Int32} {d x : Nat} {M : qxM} {st : List Value} {a0 a1 a2 : Option Value} {z : Int32} : Rs L xs (d) 89 31 [a0, a1, a2, some (.int z)] st M x = Rs L xs (d) 89 32 [a0, a1, a2, some (.int z)] (.int z :: st) M x := Rs_next c89_31 rfl
theorem c89_32 : qx_code 89 32 = some (32, .iconst 1, 33, 0, 0, 0) := by decide +kernel
theorem s89_32 {L : Nat} {xs : Nat → Int32} {d x : Nat} {M : qxM} {st : List Value} {ls : qxL} : Rs L xs (d) 89 32 ls st M x = Rs L xs (d) 89 33 ls (.int (nI 1) :: st) M x := Rs_next c89_32 rfl
theorem c89_33 : qx_code 89 33 = some (33, .iadd, 34, 0, 0, 0) := by decide +kernel
theorem s89_33 {L : Nat} {xs : Nat → Int32} {d x : Nat} {M : qxM} {st : List Value} {ls : qxL} {z y : Int32} : Rs L xs (d) 89 33 ls (.int y :: .int z :: st) M x = Rs L xs (d) 89 34 ls (.int (z + y) :: st) M x := Rs_next c89_33 rfl
theorem c89_34 : qx_code 89 34 = some (34, .invokestatic 34, 37, 174, 3, 1256) := by decide +kernel
theorem s89_34 {L : Nat} {xs : Nat → Int32} {d x : Nat} {M : qxM} {st : List Value} {ls : qxL} {z0 : Nat} {z1 : Int32} {z2 : Int32} (hs : st.length ≤ 4) : Rs L xs (d + 1) 89 34 ls (.int z2 :: .int z1 :: .ref z0 :: st) M x = (Rs L xs d 174 0 [some (.ref z0), some (.int z1), some (.int z2)] [] M 0).bind (qx_kn L xs (d + 1) 89 34 37 174 ls st x) := by
  have h1 : qx_act L xs (qx_rt 89) (34, .invokestatic 34, 37, 174, 3, 1256) ls (.int z2 :: .int z1 :: .ref z0 :: st) M = if 3 ≤ (.int z2 :: .int z1 :: .ref z0 :: st).length ∧ st.length ≤ 4 then some (.inr (.inr (.inr (174, [.ref z0, .int z1, .int z2], st)))) else none := rfl
  rw [if_pos ⟨by simp [List.length_cons]; try omega, hs⟩] at h1
  exact Rs_call c89_34 h1 rfl
theorem c89_37 : qx_code 89 37 = some (37, .return_, 38, 0, 0, 0) := by decide +kernel
theorem s89_37 {L : Nat} {xs : Nat → Int32} {d x : Nat} {M : qxM} {ls : qxL} : Rs L xs (d) 89 37 ls [] M x = some (.inl none, M, x) := Rs_ret c89_37 rfl
theorem c90_0 : qx_code 90 0 = some (0, .aload_n 0, 1, 0, 0, 0) := by decide +kernel
theorem s90_0 {L : Nat} {xs : Nat → Int32} {d x : Nat} {M : qxM} {st : List Value} {a1 a2 a3 a4 : Option Value} {z : Nat} : Rs L xs (d) 90 0 [some (.ref z), a1, a2, a3, a4] st M x = Rs L xs (d) 90 1 [some (.ref z), a1, a2, a3, a4] (.ref z :: st) M x := Rs_next c90_0 rfl
theorem c90_1 : qx_code 90 1 = some (1, .iload_n 2, 2, 0, 0, 0) := by decide +kernel
theorem s90_1 {L : Nat} {xs : Nat → Int32} {d x : Nat} {M : qxM} {st : List Value} {a0 a1 a3 a4 : Option Value} {z : Int32} : Rs L xs (d) 90 1 [a0, a1, some (.int z), a3, a4] st M x = Rs L xs (d) 90 2 [a0, a1, some (.int z), a3, a4] (.int z :: st) M x := Rs_next c90_1 rfl
theorem c90_2 : qx_code 90 2 = some (2, .invokevirtual 26, 5, 87, 2, 960) := by decide +kernel
theorem s90_2 {L : Nat} {xs : Nat → Int32} {d x : Nat} {M : qxM} {st : List Value} {ls : qxL} {t : Nat} {z0 : Int32} (hk : qx_kd t = 16) (hs : st.length ≤ 4) : Rs L xs (d + 1) 90 2 ls (.int z0 :: .ref t :: st) M x = (Rs L xs d 87 0 [some (.ref t), some (.int z0)] [] M 0).bind (qx_kn L xs (d + 1) 90 2 5 87 ls st x) := by
  have h1 : qx_act L xs (qx_rt 90) (2, .invokevirtual 26, 5, 87, 2, 960) ls (.int z0 :: .ref t :: st) M = if 2 ≤ (.int z0 :: .ref t :: st).length ∧ st.length ≤ 4 then some (.inr (.inr (.inr (87, [.ref t, .int z0], st)))) else none := rfl
  rw [if_pos ⟨by simp [List.length_cons]; try omega, hs⟩] at h1
  have h2 := qx_kd_obj (k := 6) (by decide) hk
  exact Rs_call c90_2 h1 (by rw [show qx_args 87 [.ref t, .int z0] = decide (qx_sh t = some (.inl 6)) from rfl]; exact decide_eq_true h2)
theorem c90_5 : qx_code 90 5 = some (5, .istore_n 3, 6, 0, 0, 0) := by decide +kernel
theorem s90_5i {L : Nat} {xs : Nat → Int32} {d x : Nat} {M : qxM} {st : List Value} {a0 a1 a3 a4 : Option Value} {z : Int32} {y : Int32} : Rs L xs (d) 90 5 [a0, a1, some (.int y), a3, a4] (.int z :: st) M x = Rs L xs (d) 90 6 [a0, a1, some (.int y), some (.int z), a4] st M x := Rs_next c90_5 rfl
theorem s90_5r {L : Nat} {xs : Nat → Int32} {d x : Nat} {M : qxM} {st : List Value} {a0 a1 a3 a4 : Option Value} {z : Int32} {y : Nat} : Rs L xs (d) 90 5 [a0, a1, some (.ref y), a3, a4] (.int z :: st) M x = Rs L xs (d) 90 6 [a0, a1, some (.ref y), some (.int z), a4] st M x := Rs_next c90_5 rfl
theorem s90_5n {L : Nat} {xs : Nat → Int32} {d x : Nat} {M : qxM} {st : List Value} {a0 a1 a3 a4 : Option Value} {z : Int32} : Rs L xs (d) 90 5 [a0, a1, none, a3, a4] (.int z :: st) M x = Rs L xs (d) 90 6 [a0, a1, none, some (.int z), a4] st M x := Rs_next c90_5 rfl
theorem c90_6 : qx_code 90 6 = some (6, .iconst 0, 7, 0, 0, 0) := by decide +kernel
theorem s90_6 {L : Nat} {xs : Nat → Int32} {d x : Nat} {M : qxM} {st : List Value} {ls : qxL} : Rs L xs (d) 90 6 ls st M x = Rs L xs (d) 90 7 ls (.int (nI 0) :: st) M x := Rs_next c90_6 rfl
theorem c90_7 : qx_code 90 7 = some (7, .istore 4, 9, 0, 0, 0) := by decide +kernel
theorem s90_7i {L : Nat} {xs : Nat → Int32} {d x : Nat} {M : qxM} {st : List Value} {a0 a1 a2 a4 : Option Value} {z : Int32} {y : Int32} : Rs L xs (d) 90 7 [a0, a1, a2, some (.int y), a4] (.int z :: st) M x = Rs L xs (d) 90 9 [a0, a1, a2, some (.int y), some (.int z)] st M x := Rs_next c90_7 rfl
theorem s90_7r {L : Nat} {xs : Nat → Int32} {d x : Nat} {M : qxM} {st : List Value} {a0 a1 a2 a4 : Option Value} {z : Int32} {y : Nat} : Rs L xs (d) 90 7 [a0, a1, a2, some (.ref y), a4] (.int z :: st) M x = Rs L xs (d) 90 9 [a0, a1, a2, some (.ref y), some (.int z)] st M x := Rs_next c90_7 rfl
theorem s90_7n {L : Nat} {xs : Nat → Int32} {d x : Nat} {M : qxM} {st : List Value} {a0 a1 a2 a4 : Option Value} {z : Int32} : Rs L xs (d) 90 7 [a0, a1, a2, none, a4] (.int z :: st) M x = Rs L xs (d) 90 9 [a0, a1, a2, none, some (.int z)] st M x := Rs_next c90_7 rfl
theorem c90_9 : qx_code 90 9 = some (9, .iload 4, 11, 0, 0, 0) := by decide +kernel
theorem s90_9 {L : Nat} {xs : Nat → Int32} {d x : Nat} {M : qxM} {st : List Value} {a0 a1 a2 a3 : Option Value} {z : Int32} : Rs L xs (d) 90 9 [a0, a1, a2, a3, some (.int z)] st M x = Rs L xs (d) 90 11 [a0, a1, a2, a3, some (.int z)] (.int z :: st) M x := Rs_next c90_9 rfl
theorem c90_11 : qx_code 90 11 = some (11, .iload_n 3, 12, 0, 0, 0) := by decide +kernel
theorem s90_11 {L : Nat} {xs : Nat → Int32} {d x : Nat} {M : qxM} {st : List Value} {a0 a1 a2 a4 : Option Value} {z : Int32} : Rs L xs (d) 90 11 [a0, a1, a2, some (.int z), a4] st M x = Rs L xs (d) 90 12 [a0, a1, a2, some (.int z), a4] (.int z :: st) M x := Rs_next c90_11 rfl
theorem c90_12 : qx_code 90 12 = some (12, .if_icmp .ge 21, 15, 33, 0, 0) := by decide +kernel
theorem s90_12 {L : Nat} {xs : Nat → Int32} {d x : Nat} {M : qxM} {st : List Value} {ls : qxL} {z y : Int32} : Rs L xs (d) 90 12 ls (.int y :: .int z :: st) M x = if y ≤ z then Rs L xs (d) 90 33 ls st M x else Rs L xs (d) 90 15 ls st M x := Rs_ite c90_12 rfl
theorem c90_15 : qx_code 90 15 = some (15, .aload_n 0, 16, 0, 0, 0) := by decide +kernel
theorem s90_15 {L : Nat} {xs : Nat → Int32} {d x : Nat} {M : qxM} {st : List Value} {a1 a2 a3 a4 : Option Value} {z : Nat} : Rs L xs (d) 90 15 [some (.ref z), a1, a2, a3, a4] st M x = Rs L xs (d) 90 16 [some (.ref z), a1, a2, a3, a4] (.ref z :: st) M x := Rs_next c90_15 rfl
theorem c90_16 : qx_code 90 16 = some (16, .iload_n 1, 17, 0, 0, 0) := by decide +kernel
theorem s90_16 {L : Nat} {xs : Nat → Int32} {d x : Nat} {M : qxM} {st : List Value} {a0 a2 a3 a4 : Option Value} {z : Int32} : Rs L xs (d) 90 16 [a0, some (.int z), a2, a3, a4] st M x = Rs L xs (d) 90 17 [a0, some (.int z), a2, a3, a4] (.int z :: st) M x := Rs_next c90_16 rfl
theorem c90_17 : qx_code 90 17 = some (17, .aload_n 0, 18, 0, 0, 0) := by decide +kernel
theorem s90_17 {L : Nat} {xs : Nat → Int32} {d x : Nat} {M : qxM} {st : List Value} {a1 a2 a3 a4 : Option Value} {z : Nat} : Rs L xs (d) 90 17 [some (.ref z), a1, a2, a3, a4] st M x = Rs L xs (d) 90 18 [some (.ref z), a1, a2, a3, a4] (.ref z :: st) M x := Rs_next c90_17 rfl
theorem c90_18 : qx_code 90 18 = some (18, .iload_n 2, 19, 0, 0, 0) := by decide +kernel
theorem s90_18 {L : Nat} {xs : Nat → Int32} {d x : Nat} {M : qxM} {st : List Value} {a0 a1 a3 a4 : Option Value} {z : Int32} : Rs L xs (d) 90 18 [a0, a1, some (.int z), a3, a4] st M x = Rs L xs (d) 90 19 [a0, a1, some (.int z), a3, a4] (.int z :: st) M x := Rs_next c90_18 rfl
theorem c90_19 : qx_code 90 19 = some (19, .iload 4, 21, 0, 0, 0) := by decide +kernel
theorem s90_19 {L : Nat} {xs : Nat → Int32} {d x : Nat} {M : qxM} {st : List Value} {a0 a1 a2 a3 : Option Value} {z : Int32} : Rs L xs (d) 90 19 [a0, a1, a2, a3, some (.int z)] st M x = Rs L xs (d) 90 21 [a0, a1, a2, a3, some (.int z)] (.int z :: st) M x := Rs_next c90_19 rfl
theorem c90_21 : qx_code 90 21 = some (21, .invokevirtual 38, 24, 88, 3, 1296) := by decide +kernel
theorem s90_21 {L : Nat} {xs : Nat → Int32} {d x : Nat} {M : qxM} {st : List Value} {ls : qxL} {t : Nat} {z0 : Int32} {z1 : Int32} (hk : qx_kd t = 16) (hs : st.length ≤ 4) : Rs L xs (d + 1) 90 21 ls (.int z1 :: .int z0 :: .ref t :: st) M x = (Rs L xs d 88 0 [some (.ref t), some (.int z0), some (.int z1)] [] M 0).bind (qx_kn L xs (d + 1) 90 21 24 88 ls st x) := by
  have h1 : qx_act L xs (qx_rt 90) (21, .invokevirtual 38, 24, 88, 3, 1296) ls (.int z1 :: .int z0 :: .ref t :: st) M = if 3 ≤ (.int z1 :: .int z0 :: .ref t :: st).length ∧ st.length ≤ 4 then some (.inr (.inr (.inr (88, [.ref t, .int z0, .int z1], st)))) else none := rfl
  rw [if_pos ⟨by simp [List.length_cons]; try omega, hs⟩] at h1
  have h2 := qx_kd_obj (k := 6) (by decide) hk
  exact Rs_call c90_21 h1 (by rw [show qx_args 88 [.ref t, .int z0, .int z1] = decide (qx_sh t = some (.inl 6)) from rfl]; exact decide_eq_true h2)
theorem c90_24 : qx_code 90 24 = some (24, .invokevirtual 42, 27, 89, 3, 1297) := by decide +kernel
theorem s90_24 {L : Nat} {xs : Nat → Int32} {d x : Nat} {M : qxM} {st : List Value} {ls : qxL} {t : Nat} {z0 : Int32} {z1 : Int32} (hk : qx_kd t = 16) (hs : st.length ≤ 4) : Rs L xs (d + 1) 90 24 ls (.int z1 :: .int z0 :: .ref t :: st) M x = (Rs L xs d 89 0 [some (.ref t), some (.int z0), some (.int z1), none] [] M 0).bind (qx_kn L xs (d + 1) 90 24 27 89 ls st x) := by
  have h1 : qx_act L xs (qx_rt 90) (24, .invokevirtual 42, 27, 89, 3, 1297) ls (.int z1 :: .int z0 :: .ref t :: st) M = if 3 ≤ (.int z1 :: .int z0 :: .ref t :: st).length ∧ st.length ≤ 4 then some (.inr (.inr (.inr (89, [.ref t, .int z0, .int z1], st)))) else none := rfl
  rw [if_pos ⟨by simp [List.length_cons]; try omega, hs⟩] at h1
  have h2 := qx_kd_obj (k := 6) (by decide) hk
  exact Rs_call c90_24 h1 (by rw [show qx_args 89 [.ref t, .int z0, .int z1] = decide (qx_sh t = some (.inl 6)) from rfl]; exact decide_eq_true h2)
theorem c90_27 : qx_code 90 27 = some (27, .iinc 4 1, 30, 0, 0, 0) := by decide +kernel
theorem s90_27i {L : Nat} {xs : Nat → Int32} {d x : Nat} {M : qxM} {st : List Value} {a0 a1 a2 : Option Value} {z : Int32} {y : Int32} : Rs L xs (d) 90 27 [a0, a1, a2, some (.int y), some (.int z)] st M x = Rs L xs (d) 90 30 [a0, a1, a2, some (.int y), some (.int (z + (nI 1)))] st M x := Rs_next c90_27 rfl
theorem s90_27r {L : Nat} {xs : Nat → Int32} {d x : Nat} {M : qxM} {st : List Value} {a0 a1 a2 : Option Value} {z : Int32} {y : Nat} : Rs L xs (d) 90 27 [a0, a1, a2, some (.ref y), some (.int z)] st M x = Rs L xs (d) 90 30 [a0, a1, a2, some (.ref y), some (.int (z + (nI 1)))] st M x := Rs_next c90_27 rfl
theorem s90_27n {L : Nat} {xs : Nat → Int32} {d x : Nat} {M : qxM} {st : List Value} {a0 a1 a2 : Option Value} {z : Int32} : Rs L xs (d) 90 27 [a0, a1, a2, none, some (.int z)] st M x = Rs L xs (d) 90 30 [a0, a1, a2, none, some (.int (z + (nI 1)))] st M x := Rs_next c90_27 rfl
theorem c90_30 : qx_code 90 30 = some (30, .goto (-21), 33, 9, 0, 0) := by decide +kernel
theorem s90_30 {L : Nat} {xs : Nat → Int32} {d x : Nat} {M : qxM} {st : List Value} {ls : qxL} : Rs L xs (d) 90 30 ls st M x = Rs L xs (d) 90 9 ls st M x := Rs_next c90_30 rfl
theorem c90_33 : qx_code 90 33 = some (33, .return_, 34, 0, 0, 0) := by decide +kernel
theorem s90_33 {L : Nat} {xs : Nat → Int32} {d x : Nat} {M : qxM} {ls : qxL} : Rs L xs (d) 90 33 ls [] M x = some (.inl none, M, x) := Rs_ret c90_33 rfl
theorem c91_0 : qx_code 91 0 = some (0, .iconst 0, 1, 0, 0, 0) := by decide +kernel
theorem s91_0 {L : Nat} {xs : Nat → Int32} {d x : Nat} {M : qxM} {st : List Value} {ls : qxL} : Rs L xs (d) 91 0 ls st M x = Rs L xs (d) 91 1 ls (.int (nI 0) :: st) M x := Rs_next c91_0 rfl
theorem c91_1 : qx_code 91 1 = some (1, .istore_n 3, 2, 0, 0, 0) := by decide +kernel
theorem s91_1i {L : Nat} {xs : Nat → Int32} {d x : Nat} {M : qxM} {st : List Value} {a0 a1 a3 a4 : Option Value} {z : Int32} {y : Int32} : Rs L xs (d) 91 1 [a0, a1, some (.int y), a3, a4] (.int z :: st) M x = Rs L xs (d) 91 2 [a0, a1, some (.int y), some (.int z), a4] st M x := Rs_next c91_1 rfl
theorem s91_1r {L : Nat} {xs : Nat → Int32} {d x : Nat} {M : qxM} {st : List Value} {a0 a1 a3 a4 : Option Value} {z : Int32} {y : Nat} : Rs L xs (d) 91 1 [a0, a1, some (.ref y), a3, a4] (.int z :: st) M x = Rs L xs (d) 91 2 [a0, a1, some (.ref y), some (.int z), a4] st M x := Rs_next c91_1 rfl
theorem s91_1n {L : Nat} {xs : Nat → Int32} {d x : Nat} {M : qxM} {st : List Value} {a0 a1 a3 a4 : Option Value} {z : Int32} : Rs L xs (d) 91 1 [a0, a1, none, a3, a4] (.int z :: st) M x = Rs L xs (d) 91 2 [a0, a1, none, some (.int z), a4] st M x := Rs_next c91_1 rfl
theorem c91_2 : qx_code 91 2 = some (2, .aload_n 0, 3, 0, 0, 0) := by decide +kernel
theorem s91_2 {L : Nat} {xs : Nat → Int32} {d x : Nat} {M : qxM} {st : List Value} {a1 a2 a3 a4 : Option Value} {z : Nat} : Rs L xs (d) 91 2 [some (.ref z), a1, a2, a3, a4] st M x = Rs L xs (d) 91 3 [some (.ref z), a1, a2, a3, a4] (.ref z :: st) M x := Rs_next c91_2 rfl
theorem c91_3 : qx_code 91 3 = some (3, .iload_n 2, 4, 0, 0, 0) := by decide +kernel
theorem s91_3 {L : Nat} {xs : Nat → Int32} {d x : Nat} {M : qxM} {st : List Value} {a0 a1 a3 a4 : Option Value} {z : Int32} : Rs L xs (d) 91 3 [a0, a1, some (.int z), a3, a4] st M x = Rs L xs (d) 91 4 [a0, a1, some (.int z), a3, a4] (.int z :: st) M x := Rs_next c91_3 rfl
theorem c91_4 : qx_code 91 4 = some (4, .invokevirtual 26, 7, 87, 2, 960) := by decide +kernel
theorem s91_4 {L : Nat} {xs : Nat → Int32} {d x : Nat} {M : qxM} {st : List Value} {ls : qxL} {t : Nat} {z0 : Int32} (hk : qx_kd t = 16) (hs : st.length ≤ 4) : Rs L xs (d + 1) 91 4 ls (.int z0 :: .ref t :: st) M x = (Rs L xs d 87 0 [some (.ref t), some (.int z0)] [] M 0).bind (qx_kn L xs (d + 1) 91 4 7 87 ls st x) := by
  have h1 : qx_act L xs (qx_rt 91) (4, .invokevirtual 26, 7, 87, 2, 960) ls (.int z0 :: .ref t :: st) M = if 2 ≤ (.int z0 :: .ref t :: st).length ∧ st.length ≤ 4 then some (.inr (.inr (.inr (87, [.ref t, .int z0], st)))) else none := rfl
  rw [if_pos ⟨by simp [List.length_cons]; try omega, hs⟩] at h1
  have h2 := qx_kd_obj (k := 6) (by decide) hk
  exact Rs_call c91_4 h1 (by rw [show qx_args 87 [.ref t, .int z0] = decide (qx_sh t = some (.inl 6)) from rfl]; exact decide_eq_true h2)
theorem c91_7 : qx_code 91 7 = some (7, .iconst 1, 8, 0, 0, 0) := by decide +kernel
theorem s91_7 {L : Nat} {xs : Nat → Int32} {d x : Nat} {M : qxM} {st : List Value} {ls : qxL} : Rs L xs (d) 91 7 ls st M x = Rs L xs (d) 91 8 ls (.int (nI 1) :: st) M x := Rs_next c91_7 rfl
theorem c91_8 : qx_code 91 8 = some (8, .isub, 9, 0, 0, 0) := by decide +kernel
theorem s91_8 {L : Nat} {xs : Nat → Int32} {d x : Nat} {M : qxM} {st : List Value} {ls : qxL} {z y : Int32} : Rs L xs (d) 91 8 ls (.int y :: .int z :: st) M x = Rs L xs (d) 91 9 ls (.int (z - y) :: st) M x := Rs_next c91_8 rfl
theorem c91_9 : qx_code 91 9 = some (9, .istore 4, 11, 0, 0, 0) := by decide +kernel
theorem s91_9i {L : Nat} {xs : Nat → Int32} {d x : Nat} {M : qxM} {st : List Value} {a0 a1 a2 a4 : Option Value} {z : Int32} {y : Int32} : Rs L xs (d) 91 9 [a0, a1, a2, some (.int y), a4] (.int z :: st) M x = Rs L xs (d) 91 11 [a0, a1, a2, some (.int y), some (.int z)] st M x := Rs_next c91_9 rfl
theorem s91_9r {L : Nat} {xs : Nat → Int32} {d x : Nat} {M : qxM} {st : List Value} {a0 a1 a2 a4 : Option Value} {z : Int32} {y : Nat} : Rs L xs (d) 91 9 [a0, a1, a2, some (.ref y), a4] (.int z :: st) M x = Rs L xs (d) 91 11 [a0, a1, a2, some (.ref y), some (.int z)] st M x := Rs_next c91_9 rfl
theorem s91_9n {L : Nat} {xs : Nat → Int32} {d x : Nat} {M : qxM} {st : List Value} {a0 a1 a2 a4 : Option Value} {z : Int32} : Rs L xs (d) 91 9 [a0, a1, a2, none, a4] (.int z :: st) M x = Rs L xs (d) 91 11 [a0, a1, a2, none, some (.int z)] st M x := Rs_next c91_9 rfl
theorem c91_11 : qx_code 91 11 = some (11, .iload 4, 13, 0, 0, 0) := by decide +kernel
theorem s91_11 {L : Nat} {xs : Nat → Int32} {d x : Nat} {M : qxM} {st : List Value} {a0 a1 a2 a3 : Option Value} {z : Int32} : Rs L xs (d) 91 11 [a0, a1, a2, a3, some (.int z)] st M x = Rs L xs (d) 91 13 [a0, a1, a2, a3, some (.int z)] (.int z :: st) M x := Rs_next c91_11 rfl
theorem c91_13 : qx_code 91 13 = some (13, .ifCond .lt 46, 16, 59, 0, 0) := by decide +kernel
theorem s91_13 {L : Nat} {xs : Nat → Int32} {d x : Nat} {M : qxM} {st : List Value} {ls : qxL} {z : Int32} : Rs L xs (d) 91 13 ls (.int z :: st) M x = if z < 0 then Rs L xs (d) 91 59 ls st M x else Rs L xs (d) 91 16 ls st M x := Rs_ite c91_13 rfl
theorem c91_16 : qx_code 91 16 = some (16, .iload_n 3, 17, 0, 0, 0) := by decide +kernel
theorem s91_16 {L : Nat} {xs : Nat → Int32} {d x : Nat} {M : qxM} {st : List Value} {a0 a1 a2 a4 : Option Value} {z : Int32} : Rs L xs (d) 91 16 [a0, a1, a2, some (.int z), a4] st M x = Rs L xs (d) 91 17 [a0, a1, a2, some (.int z), a4] (.int z :: st) M x := Rs_next c91_16 rfl
theorem c91_17 : qx_code 91 17 = some (17, .ifCond .ne 14, 20, 31, 0, 0) := by decide +kernel
theorem s91_17 {L : Nat} {xs : Nat → Int32} {d x : Nat} {M : qxM} {st : List Value} {ls : qxL} {z : Int32} : Rs L xs (d) 91 17 ls (.int z :: st) M x = if z = 0 then Rs L xs (d) 91 20 ls st M x else Rs L xs (d) 91 31 ls st M x := Rs_ite c91_17 rfl
theorem c91_20 : qx_code 91 20 = some (20, .aload_n 0, 21, 0, 0, 0) := by decide +kernel
theorem s91_20 {L : Nat} {xs : Nat → Int32} {d x : Nat} {M : qxM} {st : List Value} {a1 a2 a3 a4 : Option Value} {z : Nat} : Rs L xs (d) 91 20 [some (.ref z), a1, a2, a3, a4] st M x = Rs L xs (d) 91 21 [some (.ref z), a1, a2, a3, a4] (.ref z :: st) M x := Rs_next c91_20 rfl
theorem c91_21 : qx_code 91 21 = some (21, .iload_n 2, 22, 0, 0, 0) := by decide +kernel
theorem s91_21 {L : Nat} {xs : Nat → Int32} {d x : Nat} {M : qxM} {st : List Value} {a0 a1 a3 a4 : Option Value} {z : Int32} : Rs L xs (d) 91 21 [a0, a1, some (.int z), a3, a4] st M x = Rs L xs (d) 91 22 [a0, a1, some (.int z), a3, a4] (.int z :: st) M x := Rs_next c91_21 rfl
theorem c91_22 : qx_code 91 22 = some (22, .iload 4, 24, 0, 0, 0) := by decide +kernel
theorem s91_22 {L : Nat} {xs : Nat → Int32} {d x : Nat} {M : qxM} {st : List Value} {a0 a1 a2 a3 : Option Value} {z : Int32} : Rs L xs (d) 91 22 [a0, a1, a2, a3, some (.int z)] st M x = Rs L xs (d) 91 24 [a0, a1, a2, a3, some (.int z)] (.int z :: st) M x := Rs_next c91_22 rfl
theorem c91_24 : qx_code 91 24 = some (24, .invokevirtual 38, 27, 88, 3, 1296) := by decide +kernel
theorem s91_24 {L : Nat} {xs : Nat → Int32} {d x : Nat} {M : qxM} {st : List Value} {ls : qxL} {t : Nat} {z0 : Int32} {z1 : Int32} (hk : qx_kd t = 16) (hs : st.length ≤ 4) : Rs L xs (d + 1) 91 24 ls (.int z1 :: .int z0 :: .ref t :: st) M x = (Rs L xs d 88 0 [some (.ref t), some (.int z0), some (.int z1)] [] M 0).bind (qx_kn L xs (d + 1) 91 24 27 88 ls st x) := by
  have h1 : qx_act L xs (qx_rt 91) (24, .invokevirtual 38, 27, 88, 3, 1296) ls (.int z1 :: .int z0 :: .ref t :: st) M = if 3 ≤ (.int z1 :: .int z0 :: .ref t :: st).length ∧ st.length ≤ 4 then some (.inr (.inr (.inr (88, [.ref t, .int z0, .int z1], st)))) else none := rfl
  rw [if_pos ⟨by simp [List.length_cons]; try omega, hs⟩] at h1
  have h2 := qx_kd_obj (k := 6) (by decide) hk
  exact Rs_call c91_24 h1 (by rw [show qx_args 88 [.ref t, .int z0, .int z1] = decide (qx_sh t = some (.inl 6)) from rfl]; exact decide_eq_true h2)
theorem c91_27 : qx_code 91 27 = some (27, .iload_n 1, 28, 0, 0, 0) := by decide +kernel
theorem s91_27 {L : Nat} {xs : Nat → Int32} {d x : Nat} {M : qxM} {st : List Value} {a0 a2 a3 a4 : Option Value} {z : Int32} : Rs L xs (d) 91 27 [a0, some (.int z), a2, a3, a4] st M x = Rs L xs (d) 91 28 [a0, some (.int z), a2, a3, a4] (.int z :: st) M x := Rs_next c91_27 rfl
theorem c91_28 : qx_code 91 28 = some (28, .if_icmp .ne 7, 31, 35, 0, 0) := by decide +kernel
theorem s91_28 {L : Nat} {xs : Nat → Int32} {d x : Nat} {M : qxM} {st : List Value} {ls : qxL} {z y : Int32} : Rs L xs (d) 91 28 ls (.int y :: .int z :: st) M x = if z = y then Rs L xs (d) 91 31 ls st M x else Rs L xs (d) 91 35 ls st M x := Rs_ite c91_28 rfl
theorem c91_31 : qx_code 91 31 = some (31, .iconst 1, 32, 0, 0, 0) := by decide +kernel
theorem s91_31 {L : Nat} {xs : Nat → Int32} {d x : Nat} {M : qxM} {st : List Value} {ls : qxL} : Rs L xs (d) 91 31 ls st M x = Rs L xs (d) 91 32 ls (.int (nI 1) :: st) M x := Rs_next c91_31 rfl
theorem c91_32 : qx_code 91 32 = some (32, .goto 4, 35, 36, 0, 0) := by decide +kernel
theorem s91_32 {L : Nat} {xs : Nat → Int32} {d x : Nat} {M : qxM} {st : List Value} {ls : qxL} : Rs L xs (d) 91 32 ls st M x = Rs L xs (d) 91 36 ls st M x := Rs_next c91_32 rfl
theorem c91_35 : qx_code 91 35 = some (35, .iconst 0, 36, 0, 0, 0) := by decide +kernel
theorem s91_35 {L : Nat} {xs : Nat → Int32} {d x : Nat} {M : qxM} {st : List Value} {ls : qxL} : Rs L xs (d) 91 35 ls st M x = Rs L xs (d) 91 36 ls (.int (nI 0) :: st) M x := Rs_next c91_35 rfl
theorem c91_36 : qx_code 91 36 = some (36, .istore_n 3, 37, 0, 0, 0) := by decide +kernel
theorem s91_36i {L : Nat} {xs : Nat → Int32} {d x : Nat} {M : qxM} {st : List Value} {a0 a1 a3 a4 : Option Value} {z : Int32} {y : Int32} : Rs L xs (d) 91 36 [a0, a1, some (.int y), a3, a4] (.int z :: st) M x = Rs L xs (d) 91 37 [a0, a1, some (.int y), some (.int z), a4] st M x := Rs_next c91_36 rfl
theorem s91_36r {L : Nat} {xs : Nat → Int32} {d x : Nat} {M : qxM} {st : List Value} {a0 a1 a3 a4 : Option Value} {z : Int32} {y : Nat} : Rs L xs (d) 91 36 [a0, a1, some (.ref y), a3, a4] (.int z :: st) M x = Rs L xs (d) 91 37 [a0, a1, some (.ref y), some (.int z), a4] st M x := Rs_next c91_36 rfl
theorem s91_36n {L : Nat} {xs : Nat → Int32} {d x : Nat} {M : qxM} {st : List Value} {a0 a1 a3 a4 : Option Value} {z : Int32} : Rs L xs (d) 91 36 [a0, a1, none, a3, a4] (.int z :: st) M x = Rs L xs (d) 91 37 [a0, a1, none, some (.int z), a4] st M x := Rs_next c91_36 rfl
theorem c91_37 : qx_code 91 37 = some (37, .iload_n 3, 38, 0, 0, 0) := by decide +kernel
theorem s91_37 {L : Nat} {xs : Nat → Int32} {d x : Nat} {M : qxM} {st : List Value} {a0 a1 a2 a4 : Option Value} {z : Int32} : Rs L xs (d) 91 37 [a0, a1, a2, some (.int z), a4] st M x = Rs L xs (d) 91 38 [a0, a1, a2, some (.int z), a4] (.int z :: st) M x := Rs_next c91_37 rfl
theorem c91_38 : qx_code 91 38 = some (38, .ifCond .eq 15, 41, 53, 0, 0) := by decide +kernel
theorem s91_38 {L : Nat} {xs : Nat → Int32} {d x : Nat} {M : qxM} {st : List Value} {ls : qxL} {z : Int32} : Rs L xs (d) 91 38 ls (.int z :: st) M x = if z = 0 then Rs L xs (d) 91 53 ls st M x else Rs L xs (d) 91 41 ls st M x := Rs_ite c91_38 rfl
theorem c91_41 : qx_code 91 41 = some (41, .aload_n 0, 42, 0, 0, 0) := by decide +kernel
theorem s91_41 {L : Nat} {xs : Nat → Int32} {d x : Nat} {M : qxM} {st : List Value} {a1 a2 a3 a4 : Option Value} {z : Nat} : Rs L xs (d) 91 41 [some (.ref z), a1, a2, a3, a4] st M x = Rs L xs (d) 91 42 [some (.ref z), a1, a2, a3, a4] (.ref z :: st) M x := Rs_next c91_41 rfl
theorem c91_42 : qx_code 91 42 = some (42, .iload_n 1, 43, 0, 0, 0) := by decide +kernel
theorem s91_42 {L : Nat} {xs : Nat → Int32} {d x : Nat} {M : qxM} {st : List Value} {a0 a2 a3 a4 : Option Value} {z : Int32} : Rs L xs (d) 91 42 [a0, some (.int z), a2, a3, a4] st M x = Rs L xs (d) 91 43 [a0, some (.int z), a2, a3, a4] (.int z :: st) M x := Rs_next c91_42 rfl
theorem c91_43 : qx_code 91 43 = some (43, .aload_n 0, 44, 0, 0, 0) := by decide +kernel
theorem s91_43 {L : Nat} {xs : Nat → Int32} {d x : Nat} {M : qxM} {st : List Value} {a1 a2 a3 a4 : Option Value} {z : Nat} : Rs L xs (d) 91 43 [some (.ref z), a1, a2, a3, a4] st M x = Rs L xs (d) 91 44 [some (.ref z), a1, a2, a3, a4] (.ref z :: st) M x := Rs_next c91_43 rfl
theorem c91_44 : qx_code 91 44 = some (44, .iload_n 2, 45, 0, 0, 0) := by decide +kernel
theorem s91_44 {L : Nat} {xs : Nat → Int32} {d x : Nat} {M : qxM} {st : List Value} {a0 a1 a3 a4 : Option Value} {z : Int32} : Rs L xs (d) 91 44 [a0, a1, some (.int z), a3, a4] st M x = Rs L xs (d) 91 45 [a0, a1, some (.int z), a3, a4] (.int z :: st) M x := Rs_next c91_44 rfl
theorem c91_45 : qx_code 91 45 = some (45, .iload 4, 47, 0, 0, 0) := by decide +kernel
theorem s91_45 {L : Nat} {xs : Nat → Int32} {d x : Nat} {M : qxM} {st : List Value} {a0 a1 a2 a3 : Option Value} {z : Int32} : Rs L xs (d) 91 45 [a0, a1, a2, a3, some (.int z)] st M x = Rs L xs (d) 91 47 [a0, a1, a2, a3, some (.int z)] (.int z :: st) M x := Rs_next c91_45 rfl
theorem c91_47 : qx_code 91 47 = some (47, .invokevirtual 38, 50, 88, 3, 1296) := by decide +kernel
theorem s91_47 {L : Nat} {xs : Nat → Int32} {d x : Nat} {M : qxM} {st : List Value} {ls : qxL} {t : Nat} {z0 : Int32} {z1 : Int32} (hk : qx_kd t = 16) (hs : st.length ≤ 4) : Rs L xs (d + 1) 91 47 ls (.int z1 :: .int z0 :: .ref t :: st) M x = (Rs L xs d 88 0 [some (.ref t), some (.int z0), some (.int z1)] [] M 0).bind (qx_kn L xs (d + 1) 91 47 50 88 ls st x) := by
  have h1 : qx_act L xs (qx_rt 91) (47, .invokevirtual 38, 50, 88, 3, 1296) ls (.int z1 :: .int z0 :: .ref t :: st) M = if 3 ≤ (.int z1 :: .int z0 :: .ref t :: st).length ∧ st.length ≤ 4 then some (.inr (.inr (.inr (88, [.ref t, .int z0, .int z1], st)))) else none := rfl
  rw [if_pos ⟨by simp [List.length_cons]; try omega, hs⟩] at h1
  have h2 := qx_kd_obj (k := 6) (by decide) hk
  exact Rs_call c91_47 h1 (by rw [show qx_args 88 [.ref t, .int z0, .int z1] = decide (qx_sh t = some (.inl 6)) from rfl]; exact decide_eq_true h2)
theorem c91_50 : qx_code 91 50 = some (50, .invokevirtual 42, 53, 89, 3, 1297) := by decide +kernel
theorem s91_50 {L : Nat} {xs : Nat → Int32} {d x : Nat} {M : qxM} {st : List Value} {ls : qxL} {t : Nat} {z0 : Int32} {z1 : Int32} (hk : qx_kd t = 16) (hs : st.length ≤ 4) : Rs L xs (d + 1) 91 50 ls (.int z1 :: .int z0 :: .ref t :: st) M x = (Rs L xs d 89 0 [some (.ref t), some (.int z0), some (.int z1), none] [] M 0).bind (qx_kn L xs (d + 1) 91 50 53 89 ls st x) := by
  have h1 : qx_act L xs (qx_rt 91) (50, .invokevirtual 42, 53, 89, 3, 1297) ls (.int z1 :: .int z0 :: .ref t :: st) M = if 3 ≤ (.int z1 :: .int z0 :: .ref t :: st).length ∧ st.length ≤ 4 then some (.inr (.inr (.inr (89, [.ref t, .int z0, .int z1], st)))) else none := rfl
  rw [if_pos ⟨by simp [List.length_cons]; try omega, hs⟩] at h1
  have h2 := qx_kd_obj (k := 6) (by decide) hk
  exact Rs_call c91_50 h1 (by rw [show qx_args 89 [.ref t, .int z0, .int z1] = decide (qx_sh t = some (.inl 6)) from rfl]; exact decide_eq_true h2)
theorem c91_53 : qx_code 91 53 = some (53, .iinc 4 (-1), 56, 0, 0, 0) := by decide +kernel
theorem s91_53i {L : Nat} {xs : Nat → Int32} {d x : Nat} {M : qxM} {st : List Value} {a0 a1 a2 : Option Value} {z : Int32} {y : Int32} : Rs L xs (d) 91 53 [a0, a1, a2, some (.int y), some (.int z)] st M x = Rs L xs (d) 91 56 [a0, a1, a2, some (.int y), some (.int (z + (-1)))] st M x := Rs_next c91_53 rfl
theorem s91_53r {L : Nat} {xs : Nat → Int32} {d x : Nat} {M : qxM} {st : List Value} {a0 a1 a2 : Option Value} {z : Int32} {y : Nat} : Rs L xs (d) 91 53 [a0, a1, a2, some (.ref y), some (.int z)] st M x = Rs L xs (d) 91 56 [a0, a1, a2, some (.ref y), some (.int (z + (-1)))] st M x := Rs_next c91_53 rfl
theorem s91_53n {L : Nat} {xs : Nat → Int32} {d x : Nat} {M : qxM} {st : List Value} {a0 a1 a2 : Option Value} {z : Int32} : Rs L xs (d) 91 53 [a0, a1, a2, none, some (.int z)] st M x = Rs L xs (d) 91 56 [a0, a1, a2, none, some (.int (z + (-1)))] st M x := Rs_next c91_53 rfl
theorem c91_56 : qx_code 91 56 = some (56, .goto (-45), 59, 11, 0, 0) := by decide +kernel
theorem s91_56 {L : Nat} {xs : Nat → Int32} {d x : Nat} {M : qxM} {st : List Value} {ls : qxL} : Rs L xs (d) 91 56 ls st M x = Rs L xs (d) 91 11 ls st M x := Rs_next c91_56 rfl
theorem c91_59 : qx_code 91 59 = some (59, .return_, 60, 0, 0, 0) := by decide +kernel
theorem s91_59 {L : Nat} {xs : Nat → Int32} {d x : Nat} {M : qxM} {ls : qxL} : Rs L xs (d) 91 59 ls [] M x = some (.inl none, M, x) := Rs_ret c91_59 rfl
