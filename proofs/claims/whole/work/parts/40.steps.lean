/-! Steps: the Model, to its search. -/
theorem c177_0 : qx_code 177 0 = some (0, .aload_n 0, 1, 0, 0, 0) := by decide +kernel
theorem s177_0 {L : Nat} {xs : Nat → Int32} {d x : Nat} {M : qxM} {st : List Value} {z : Nat} : Rs L xs (d) 177 0 [some (.ref z)] st M x = Rs L xs (d) 177 1 [some (.ref z)] (.ref z :: st) M x := Rs_next c177_0 rfl
theorem c177_1 : qx_code 177 1 = some (1, .getfield 46, 4, 8, 0, 1545) := by decide +kernel
theorem s177_1 {L : Nat} {xs : Nat → Int32} {d x : Nat} {M : qxM} {st : List Value} {ls : qxL} {t : Nat} (hk : qx_kd t = 18) : Rs L xs (d) 177 1 ls (.ref t :: st) M x = Rs L xs (d) 177 4 ls (.int (M.1 t 0) :: st) M x := Rs_when (qx_kd_obj (k := 8) (by decide) hk) c177_1 rfl
theorem c177_4 : qx_code 177 4 = some (4, .ireturn, 5, 0, 0, 0) := by decide +kernel
theorem s177_4 {L : Nat} {xs : Nat → Int32} {d x : Nat} {M : qxM} {ls : qxL} {z : Int32} : Rs L xs (d) 177 4 ls [.int z] M x = some (.inl (some (.int z)), M, x) := Rs_ret c177_4 rfl
theorem c178_0 : qx_code 178 0 = some (0, .iload_n 0, 1, 0, 0, 0) := by decide +kernel
theorem s178_0 {L : Nat} {xs : Nat → Int32} {d x : Nat} {M : qxM} {st : List Value} {a1 a2 : Option Value} {z : Int32} : Rs L xs (d) 178 0 [some (.int z), a1, a2] st M x = Rs L xs (d) 178 1 [some (.int z), a1, a2] (.int z :: st) M x := Rs_next c178_0 rfl
theorem c178_1 : qx_code 178 1 = some (1, .iload_n 1, 2, 0, 0, 0) := by decide +kernel
theorem s178_1 {L : Nat} {xs : Nat → Int32} {d x : Nat} {M : qxM} {st : List Value} {a0 a2 : Option Value} {z : Int32} : Rs L xs (d) 178 1 [a0, some (.int z), a2] st M x = Rs L xs (d) 178 2 [a0, some (.int z), a2] (.int z :: st) M x := Rs_next c178_1 rfl
theorem c178_2 : qx_code 178 2 = some (2, .if_icmp .lt 12, 5, 14, 0, 0) := by decide +kernel
theorem s178_2 {L : Nat} {xs : Nat → Int32} {d x : Nat} {M : qxM} {st : List Value} {ls : qxL} {z y : Int32} : Rs L xs (d) 178 2 ls (.int y :: .int z :: st) M x = if z < y then Rs L xs (d) 178 14 ls st M x else Rs L xs (d) 178 5 ls st M x := Rs_ite c178_2 rfl
theorem c178_5 : qx_code 178 5 = some (5, .iload_n 0, 6, 0, 0, 0) := by decide +kernel
theorem s178_5 {L : Nat} {xs : Nat → Int32} {d x : Nat} {M : qxM} {st : List Value} {a1 a2 : Option Value} {z : Int32} : Rs L xs (d) 178 5 [some (.int z), a1, a2] st M x = Rs L xs (d) 178 6 [some (.int z), a1, a2] (.int z :: st) M x := Rs_next c178_5 rfl
theorem c178_6 : qx_code 178 6 = some (6, .iload_n 2, 7, 0, 0, 0) := by decide +kernel
theorem s178_6 {L : Nat} {xs : Nat → Int32} {d x : Nat} {M : qxM} {st : List Value} {a0 a1 : Option Value} {z : Int32} : Rs L xs (d) 178 6 [a0, a1, some (.int z)] st M x = Rs L xs (d) 178 7 [a0, a1, some (.int z)] (.int z :: st) M x := Rs_next c178_6 rfl
theorem c178_7 : qx_code 178 7 = some (7, .if_icmp .gt 7, 10, 14, 0, 0) := by decide +kernel
theorem s178_7 {L : Nat} {xs : Nat → Int32} {d x : Nat} {M : qxM} {st : List Value} {ls : qxL} {z y : Int32} : Rs L xs (d) 178 7 ls (.int y :: .int z :: st) M x = if y < z then Rs L xs (d) 178 14 ls st M x else Rs L xs (d) 178 10 ls st M x := Rs_ite c178_7 rfl
theorem c178_10 : qx_code 178 10 = some (10, .iconst 1, 11, 0, 0, 0) := by decide +kernel
theorem s178_10 {L : Nat} {xs : Nat → Int32} {d x : Nat} {M : qxM} {st : List Value} {ls : qxL} : Rs L xs (d) 178 10 ls st M x = Rs L xs (d) 178 11 ls (.int (nI 1) :: st) M x := Rs_next c178_10 rfl
theorem c178_11 : qx_code 178 11 = some (11, .goto 4, 14, 15, 0, 0) := by decide +kernel
theorem s178_11 {L : Nat} {xs : Nat → Int32} {d x : Nat} {M : qxM} {st : List Value} {ls : qxL} : Rs L xs (d) 178 11 ls st M x = Rs L xs (d) 178 15 ls st M x := Rs_next c178_11 rfl
theorem c178_14 : qx_code 178 14 = some (14, .iconst 0, 15, 0, 0, 0) := by decide +kernel
theorem s178_14 {L : Nat} {xs : Nat → Int32} {d x : Nat} {M : qxM} {st : List Value} {ls : qxL} : Rs L xs (d) 178 14 ls st M x = Rs L xs (d) 178 15 ls (.int (nI 0) :: st) M x := Rs_next c178_14 rfl
theorem c178_15 : qx_code 178 15 = some (15, .ireturn, 16, 0, 0, 0) := by decide +kernel
theorem s178_15 {L : Nat} {xs : Nat → Int32} {d x : Nat} {M : qxM} {ls : qxL} {z : Int32} (h01 : z = 0 ∨ z = 1) : Rs L xs (d) 178 15 ls [.int z] M x = some (.inl (some (.int z)), M, x) := Rs_retw h01 c178_15 rfl
theorem c179_0 : qx_code 179 0 = some (0, .iload_n 0, 1, 0, 0, 0) := by decide +kernel
theorem s179_0 {L : Nat} {xs : Nat → Int32} {d x : Nat} {M : qxM} {st : List Value} {z : Int32} : Rs L xs (d) 179 0 [some (.int z)] st M x = Rs L xs (d) 179 1 [some (.int z)] (.int z :: st) M x := Rs_next c179_0 rfl
theorem c179_1 : qx_code 179 1 = some (1, .ifCond .eq 7, 4, 8, 0, 0) := by decide +kernel
theorem s179_1 {L : Nat} {xs : Nat → Int32} {d x : Nat} {M : qxM} {st : List Value} {ls : qxL} {z : Int32} : Rs L xs (d) 179 1 ls (.int z :: st) M x = if z = 0 then Rs L xs (d) 179 8 ls st M x else Rs L xs (d) 179 4 ls st M x := Rs_ite c179_1 rfl
theorem c179_4 : qx_code 179 4 = some (4, .iconst 1, 5, 0, 0, 0) := by decide +kernel
theorem s179_4 {L : Nat} {xs : Nat → Int32} {d x : Nat} {M : qxM} {st : List Value} {ls : qxL} : Rs L xs (d) 179 4 ls st M x = Rs L xs (d) 179 5 ls (.int (nI 1) :: st) M x := Rs_next c179_4 rfl
theorem c179_5 : qx_code 179 5 = some (5, .goto 4, 8, 9, 0, 0) := by decide +kernel
theorem s179_5 {L : Nat} {xs : Nat → Int32} {d x : Nat} {M : qxM} {st : List Value} {ls : qxL} : Rs L xs (d) 179 5 ls st M x = Rs L xs (d) 179 9 ls st M x := Rs_next c179_5 rfl
theorem c179_8 : qx_code 179 8 = some (8, .iconst 0, 9, 0, 0, 0) := by decide +kernel
theorem s179_8 {L : Nat} {xs : Nat → Int32} {d x : Nat} {M : qxM} {st : List Value} {ls : qxL} : Rs L xs (d) 179 8 ls st M x = Rs L xs (d) 179 9 ls (.int (nI 0) :: st) M x := Rs_next c179_8 rfl
theorem c179_9 : qx_code 179 9 = some (9, .ireturn, 10, 0, 0, 0) := by decide +kernel
theorem s179_9 {L : Nat} {xs : Nat → Int32} {d x : Nat} {M : qxM} {ls : qxL} {z : Int32} : Rs L xs (d) 179 9 ls [.int z] M x = some (.inl (some (.int z)), M, x) := Rs_ret c179_9 rfl
theorem c180_0 : qx_code 180 0 = some (0, .aload_n 0, 1, 0, 0, 0) := by decide +kernel
theorem s180_0 {L : Nat} {xs : Nat → Int32} {d x : Nat} {M : qxM} {st : List Value} {a1 a2 a3 : Option Value} {z : Nat} : Rs L xs (d) 180 0 [some (.ref z), a1, a2, a3] st M x = Rs L xs (d) 180 1 [some (.ref z), a1, a2, a3] (.ref z :: st) M x := Rs_next c180_0 rfl
theorem c180_1 : qx_code 180 1 = some (1, .iload_n 1, 2, 0, 0, 0) := by decide +kernel
theorem s180_1 {L : Nat} {xs : Nat → Int32} {d x : Nat} {M : qxM} {st : List Value} {a0 a2 a3 : Option Value} {z : Int32} : Rs L xs (d) 180 1 [a0, some (.int z), a2, a3] st M x = Rs L xs (d) 180 2 [a0, some (.int z), a2, a3] (.int z :: st) M x := Rs_next c180_1 rfl
theorem c180_2 : qx_code 180 2 = some (2, .ifCond .ne 7, 5, 9, 0, 0) := by decide +kernel
theorem s180_2 {L : Nat} {xs : Nat → Int32} {d x : Nat} {M : qxM} {st : List Value} {ls : qxL} {z : Int32} : Rs L xs (d) 180 2 ls (.int z :: st) M x = if z = 0 then Rs L xs (d) 180 5 ls st M x else Rs L xs (d) 180 9 ls st M x := Rs_ite c180_2 rfl
theorem c180_5 : qx_code 180 5 = some (5, .iconst 1, 6, 0, 0, 0) := by decide +kernel
theorem s180_5 {L : Nat} {xs : Nat → Int32} {d x : Nat} {M : qxM} {st : List Value} {ls : qxL} : Rs L xs (d) 180 5 ls st M x = Rs L xs (d) 180 6 ls (.int (nI 1) :: st) M x := Rs_next c180_5 rfl
theorem c180_6 : qx_code 180 6 = some (6, .goto 20, 9, 26, 0, 0) := by decide +kernel
theorem s180_6 {L : Nat} {xs : Nat → Int32} {d x : Nat} {M : qxM} {st : List Value} {ls : qxL} : Rs L xs (d) 180 6 ls st M x = Rs L xs (d) 180 26 ls st M x := Rs_next c180_6 rfl
theorem c180_9 : qx_code 180 9 = some (9, .iload_n 2, 10, 0, 0, 0) := by decide +kernel
theorem s180_9 {L : Nat} {xs : Nat → Int32} {d x : Nat} {M : qxM} {st : List Value} {a0 a1 a3 : Option Value} {z : Int32} : Rs L xs (d) 180 9 [a0, a1, some (.int z), a3] st M x = Rs L xs (d) 180 10 [a0, a1, some (.int z), a3] (.int z :: st) M x := Rs_next c180_9 rfl
theorem c180_10 : qx_code 180 10 = some (10, .ifCond .ne 7, 13, 17, 0, 0) := by decide +kernel
theorem s180_10 {L : Nat} {xs : Nat → Int32} {d x : Nat} {M : qxM} {st : List Value} {ls : qxL} {z : Int32} : Rs L xs (d) 180 10 ls (.int z :: st) M x = if z = 0 then Rs L xs (d) 180 13 ls st M x else Rs L xs (d) 180 17 ls st M x := Rs_ite c180_10 rfl
theorem c180_13 : qx_code 180 13 = some (13, .iconst 2, 14, 0, 0, 0) := by decide +kernel
theorem s180_13 {L : Nat} {xs : Nat → Int32} {d x : Nat} {M : qxM} {st : List Value} {ls : qxL} : Rs L xs (d) 180 13 ls st M x = Rs L xs (d) 180 14 ls (.int (nI 2) :: st) M x := Rs_next c180_13 rfl
theorem c180_14 : qx_code 180 14 = some (14, .goto 12, 17, 26, 0, 0) := by decide +kernel
theorem s180_14 {L : Nat} {xs : Nat → Int32} {d x : Nat} {M : qxM} {st : List Value} {ls : qxL} : Rs L xs (d) 180 14 ls st M x = Rs L xs (d) 180 26 ls st M x := Rs_next c180_14 rfl
theorem c180_17 : qx_code 180 17 = some (17, .iload_n 3, 18, 0, 0, 0) := by decide +kernel
theorem s180_17 {L : Nat} {xs : Nat → Int32} {d x : Nat} {M : qxM} {st : List Value} {a0 a1 a2 : Option Value} {z : Int32} : Rs L xs (d) 180 17 [a0, a1, a2, some (.int z)] st M x = Rs L xs (d) 180 18 [a0, a1, a2, some (.int z)] (.int z :: st) M x := Rs_next c180_17 rfl
theorem c180_18 : qx_code 180 18 = some (18, .ifCond .eq 7, 21, 25, 0, 0) := by decide +kernel
theorem s180_18 {L : Nat} {xs : Nat → Int32} {d x : Nat} {M : qxM} {st : List Value} {ls : qxL} {z : Int32} : Rs L xs (d) 180 18 ls (.int z :: st) M x = if z = 0 then Rs L xs (d) 180 25 ls st M x else Rs L xs (d) 180 21 ls st M x := Rs_ite c180_18 rfl
theorem c180_21 : qx_code 180 21 = some (21, .iconst 0, 22, 0, 0, 0) := by decide +kernel
theorem s180_21 {L : Nat} {xs : Nat → Int32} {d x : Nat} {M : qxM} {st : List Value} {ls : qxL} : Rs L xs (d) 180 21 ls st M x = Rs L xs (d) 180 22 ls (.int (nI 0) :: st) M x := Rs_next c180_21 rfl
theorem c180_22 : qx_code 180 22 = some (22, .goto 4, 25, 26, 0, 0) := by decide +kernel
theorem s180_22 {L : Nat} {xs : Nat → Int32} {d x : Nat} {M : qxM} {st : List Value} {ls : qxL} : Rs L xs (d) 180 22 ls st M x = Rs L xs (d) 180 26 ls st M x := Rs_next c180_22 rfl
theorem c180_25 : qx_code 180 25 = some (25, .iconst 3, 26, 0, 0, 0) := by decide +kernel
theorem s180_25 {L : Nat} {xs : Nat → Int32} {d x : Nat} {M : qxM} {st : List Value} {ls : qxL} : Rs L xs (d) 180 25 ls st M x = Rs L xs (d) 180 26 ls (.int (nI 3) :: st) M x := Rs_next c180_25 rfl
theorem c180_26 : qx_code 180 26 = some (26, .putfield 46, 29, 8, 0, 1545) := by decide +kernel
theorem s180_26 {L : Nat} {xs : Nat → Int32} {d x : Nat} {M : qxM} {st : List Value} {ls : qxL} {t : Nat} {z : Int32} (hk : qx_kd t = 18) : Rs L xs (d) 180 26 ls (.int z :: .ref t :: st) M x = Rs L xs (d) 180 29 ls st (qx_up M t 0 z) x := Rs_when (cnd := qx_sh t = some (.inl 8) ∧ qx_fo 8 0 = none ∧ (qx_bf 8 0 = true → z = 0 ∨ z = 1)) ⟨qx_kd_obj (k := 8) (by decide) hk, rfl, fun h => nomatch h⟩ c180_26 rfl
theorem c180_29 : qx_code 180 29 = some (29, .aload_n 0, 30, 0, 0, 0) := by decide +kernel
theorem s180_29 {L : Nat} {xs : Nat → Int32} {d x : Nat} {M : qxM} {st : List Value} {a1 a2 a3 : Option Value} {z : Nat} : Rs L xs (d) 180 29 [some (.ref z), a1, a2, a3] st M x = Rs L xs (d) 180 30 [some (.ref z), a1, a2, a3] (.ref z :: st) M x := Rs_next c180_29 rfl
theorem c180_30 : qx_code 180 30 = some (30, .getfield 46, 33, 8, 0, 1545) := by decide +kernel
theorem s180_30 {L : Nat} {xs : Nat → Int32} {d x : Nat} {M : qxM} {st : List Value} {ls : qxL} {t : Nat} (hk : qx_kd t = 18) : Rs L xs (d) 180 30 ls (.ref t :: st) M x = Rs L xs (d) 180 33 ls (.int (M.1 t 0) :: st) M x := Rs_when (qx_kd_obj (k := 8) (by decide) hk) c180_30 rfl
theorem c180_33 : qx_code 180 33 = some (33, .ifCond .ne 7, 36, 40, 0, 0) := by decide +kernel
theorem s180_33 {L : Nat} {xs : Nat → Int32} {d x : Nat} {M : qxM} {st : List Value} {ls : qxL} {z : Int32} : Rs L xs (d) 180 33 ls (.int z :: st) M x = if z = 0 then Rs L xs (d) 180 36 ls st M x else Rs L xs (d) 180 40 ls st M x := Rs_ite c180_33 rfl
theorem c180_36 : qx_code 180 36 = some (36, .iconst 1, 37, 0, 0, 0) := by decide +kernel
theorem s180_36 {L : Nat} {xs : Nat → Int32} {d x : Nat} {M : qxM} {st : List Value} {ls : qxL} : Rs L xs (d) 180 36 ls st M x = Rs L xs (d) 180 37 ls (.int (nI 1) :: st) M x := Rs_next c180_36 rfl
theorem c180_37 : qx_code 180 37 = some (37, .goto 4, 40, 41, 0, 0) := by decide +kernel
theorem s180_37 {L : Nat} {xs : Nat → Int32} {d x : Nat} {M : qxM} {st : List Value} {ls : qxL} : Rs L xs (d) 180 37 ls st M x = Rs L xs (d) 180 41 ls st M x := Rs_next c180_37 rfl
theorem c180_40 : qx_code 180 40 = some (40, .iconst 0, 41, 0, 0, 0) := by decide +kernel
theorem s180_40 {L : Nat} {xs : Nat → Int32} {d x : Nat} {M : qxM} {st : List Value} {ls : qxL} : Rs L xs (d) 180 40 ls st M x = Rs L xs (d) 180 41 ls (.int (nI 0) :: st) M x := Rs_next c180_40 rfl
theorem c180_41 : qx_code 180 41 = some (41, .ireturn, 42, 0, 0, 0) := by decide +kernel
theorem s180_41 {L : Nat} {xs : Nat → Int32} {d x : Nat} {M : qxM} {ls : qxL} {z : Int32} (h01 : z = 0 ∨ z = 1) : Rs L xs (d) 180 41 ls [.int z] M x = some (.inl (some (.int z)), M, x) := Rs_retw h01 c180_41 rfl
theorem c181_0 : qx_code 181 0 = some (0, .aload_n 0, 1, 0, 0, 0) := by decide +kernel
theorem s181_0 {L : Nat} {xs : Nat → Int32} {d x : Nat} {M : qxM} {st : List Value} {a1 a2 : Option Value} {z : Nat} : Rs L xs (d) 181 0 [some (.ref z), a1, a2] st M x = Rs L xs (d) 181 1 [some (.ref z), a1, a2] (.ref z :: st) M x := Rs_next c181_0 rfl
theorem c181_1 : qx_code 181 1 = some (1, .iload_n 1, 2, 0, 0, 0) := by decide +kernel
theorem s181_1 {L : Nat} {xs : Nat → Int32} {d x : Nat} {M : qxM} {st : List Value} {a0 a2 : Option Value} {z : Int32} : Rs L xs (d) 181 1 [a0, some (.int z), a2] st M x = Rs L xs (d) 181 2 [a0, some (.int z), a2] (.int z :: st) M x := Rs_next c181_1 rfl
theorem c181_2 : qx_code 181 2 = some (2, .iload_n 2, 3, 0, 0, 0) := by decide +kernel
theorem s181_2 {L : Nat} {xs : Nat → Int32} {d x : Nat} {M : qxM} {st : List Value} {a0 a1 : Option Value} {z : Int32} : Rs L xs (d) 181 2 [a0, a1, some (.int z)] st M x = Rs L xs (d) 181 3 [a0, a1, some (.int z)] (.int z :: st) M x := Rs_next c181_2 rfl
theorem c181_3 : qx_code 181 3 = some (3, .iconst 1, 4, 0, 0, 0) := by decide +kernel
theorem s181_3 {L : Nat} {xs : Nat → Int32} {d x : Nat} {M : qxM} {st : List Value} {ls : qxL} : Rs L xs (d) 181 3 ls st M x = Rs L xs (d) 181 4 ls (.int (nI 1) :: st) M x := Rs_next c181_3 rfl
theorem c181_4 : qx_code 181 4 = some (4, .invokevirtual 49, 7, 180, 4, 1644) := by decide +kernel
theorem s181_4 {L : Nat} {xs : Nat → Int32} {d x : Nat} {M : qxM} {st : List Value} {ls : qxL} {t : Nat} {z0 : Int32} {z1 : Int32} {z2 : Int32} (hk : qx_kd t = 18) (hs : st.length ≤ 4) : Rs L xs (d + 1) 181 4 ls (.int z2 :: .int z1 :: .int z0 :: .ref t :: st) M x = (Rs L xs d 180 0 [some (.ref t), some (.int z0), some (.int z1), some (.int z2)] [] M 0).bind (qx_kn L xs (d + 1) 181 4 7 180 ls st x) := by
  have h1 : qx_act L xs (qx_rt 181) (4, .invokevirtual 49, 7, 180, 4, 1644) ls (.int z2 :: .int z1 :: .int z0 :: .ref t :: st) M = if 4 ≤ (.int z2 :: .int z1 :: .int z0 :: .ref t :: st).length ∧ st.length ≤ 4 then some (.inr (.inr (.inr (180, [.ref t, .int z0, .int z1, .int z2], st)))) else none := rfl
  rw [if_pos ⟨by simp [List.length_cons]; try omega, hs⟩] at h1
  have h2 := qx_kd_obj (k := 8) (by decide) hk
  exact Rs_call c181_4 h1 (by rw [show qx_args 180 [.ref t, .int z0, .int z1, .int z2] = decide (qx_sh t = some (.inl 8)) from rfl]; exact decide_eq_true h2)
theorem c181_7 : qx_code 181 7 = some (7, .ireturn, 8, 0, 0, 0) := by decide +kernel
theorem s181_7 {L : Nat} {xs : Nat → Int32} {d x : Nat} {M : qxM} {ls : qxL} {z : Int32} (h01 : z = 0 ∨ z = 1) : Rs L xs (d) 181 7 ls [.int z] M x = some (.inl (some (.int z)), M, x) := Rs_retw h01 c181_7 rfl
theorem c182_0 : qx_code 182 0 = some (0, .iconst 0, 1, 0, 0, 0) := by decide +kernel
theorem s182_0 {L : Nat} {xs : Nat → Int32} {d x : Nat} {M : qxM} {st : List Value} {ls : qxL} : Rs L xs (d) 182 0 ls st M x = Rs L xs (d) 182 1 ls (.int (nI 0) :: st) M x := Rs_next c182_0 rfl
theorem c182_1 : qx_code 182 1 = some (1, .istore 4, 3, 0, 0, 0) := by decide +kernel
theorem s182_1i {L : Nat} {xs : Nat → Int32} {d x : Nat} {M : qxM} {st : List Value} {a0 a1 a2 a4 : Option Value} {z : Int32} {y : Int32} : Rs L xs (d) 182 1 [a0, a1, a2, some (.int y), a4] (.int z :: st) M x = Rs L xs (d) 182 3 [a0, a1, a2, some (.int y), some (.int z)] st M x := Rs_next c182_1 rfl
theorem s182_1r {L : Nat} {xs : Nat → Int32} {d x : Nat} {M : qxM} {st : List Value} {a0 a1 a2 a4 : Option Value} {z : Int32} {y : Nat} : Rs L xs (d) 182 1 [a0, a1, a2, some (.ref y), a4] (.int z :: st) M x = Rs L xs (d) 182 3 [a0, a1, a2, some (.ref y), some (.int z)] st M x := Rs_next c182_1 rfl
theorem s182_1n {L : Nat} {xs : Nat → Int32} {d x : Nat} {M : qxM} {st : List Value} {a0 a1 a2 a4 : Option Value} {z : Int32} : Rs L xs (d) 182 1 [a0, a1, a2, none, a4] (.int z :: st) M x = Rs L xs (d) 182 3 [a0, a1, a2, none, some (.int z)] st M x := Rs_next c182_1 rfl
theorem c182_3 : qx_code 182 3 = some (3, .iload 4, 5, 0, 0, 0) := by decide +kernel
theorem s182_3 {L : Nat} {xs : Nat → Int32} {d x : Nat} {M : qxM} {st : List Value} {a0 a1 a2 a3 : Option Value} {z : Int32} : Rs L xs (d) 182 3 [a0, a1, a2, a3, some (.int z)] st M x = Rs L xs (d) 182 5 [a0, a1, a2, a3, some (.int z)] (.int z :: st) M x := Rs_next c182_3 rfl
theorem c182_5 : qx_code 182 5 = some (5, .sipush 335, 8, 0, 0, 0) := by decide +kernel
theorem s182_5 {L : Nat} {xs : Nat → Int32} {d x : Nat} {M : qxM} {st : List Value} {ls : qxL} : Rs L xs (d) 182 5 ls st M x = Rs L xs (d) 182 8 ls (.int (nI 335) :: st) M x := Rs_next c182_5 rfl
theorem c182_8 : qx_code 182 8 = some (8, .if_icmp .ge 21, 11, 29, 0, 0) := by decide +kernel
theorem s182_8 {L : Nat} {xs : Nat → Int32} {d x : Nat} {M : qxM} {st : List Value} {ls : qxL} {z y : Int32} : Rs L xs (d) 182 8 ls (.int y :: .int z :: st) M x = if y ≤ z then Rs L xs (d) 182 29 ls st M x else Rs L xs (d) 182 11 ls st M x := Rs_ite c182_8 rfl
theorem c182_11 : qx_code 182 11 = some (11, .aload_n 2, 12, 0, 0, 0) := by decide +kernel
theorem s182_11 {L : Nat} {xs : Nat → Int32} {d x : Nat} {M : qxM} {st : List Value} {a0 a1 a3 a4 : Option Value} {z : Nat} : Rs L xs (d) 182 11 [a0, a1, some (.ref z), a3, a4] st M x = Rs L xs (d) 182 12 [a0, a1, some (.ref z), a3, a4] (.ref z :: st) M x := Rs_next c182_11 rfl
theorem c182_12 : qx_code 182 12 = some (12, .iload_n 3, 13, 0, 0, 0) := by decide +kernel
theorem s182_12 {L : Nat} {xs : Nat → Int32} {d x : Nat} {M : qxM} {st : List Value} {a0 a1 a2 a4 : Option Value} {z : Int32} : Rs L xs (d) 182 12 [a0, a1, a2, some (.int z), a4] st M x = Rs L xs (d) 182 13 [a0, a1, a2, some (.int z), a4] (.int z :: st) M x := Rs_next c182_12 rfl
theorem c182_13 : qx_code 182 13 = some (13, .iload 4, 15, 0, 0, 0) := by decide +kernel
theorem s182_13 {L : Nat} {xs : Nat → Int32} {d x : Nat} {M : qxM} {st : List Value} {a0 a1 a2 a3 : Option Value} {z : Int32} : Rs L xs (d) 182 13 [a0, a1, a2, a3, some (.int z)] st M x = Rs L xs (d) 182 15 [a0, a1, a2, a3, some (.int z)] (.int z :: st) M x := Rs_next c182_13 rfl
theorem c182_15 : qx_code 182 15 = some (15, .iadd, 16, 0, 0, 0) := by decide +kernel
theorem s182_15 {L : Nat} {xs : Nat → Int32} {d x : Nat} {M : qxM} {st : List Value} {ls : qxL} {z y : Int32} : Rs L xs (d) 182 15 ls (.int y :: .int z :: st) M x = Rs L xs (d) 182 16 ls (.int (z + y) :: st) M x := Rs_next c182_15 rfl
theorem c182_16 : qx_code 182 16 = some (16, .aload_n 0, 17, 0, 0, 0) := by decide +kernel
theorem s182_16 {L : Nat} {xs : Nat → Int32} {d x : Nat} {M : qxM} {st : List Value} {a1 a2 a3 a4 : Option Value} {z : Nat} : Rs L xs (d) 182 16 [some (.ref z), a1, a2, a3, a4] st M x = Rs L xs (d) 182 17 [some (.ref z), a1, a2, a3, a4] (.ref z :: st) M x := Rs_next c182_16 rfl
theorem c182_17 : qx_code 182 17 = some (17, .iload_n 1, 18, 0, 0, 0) := by decide +kernel
theorem s182_17 {L : Nat} {xs : Nat → Int32} {d x : Nat} {M : qxM} {st : List Value} {a0 a2 a3 a4 : Option Value} {z : Int32} : Rs L xs (d) 182 17 [a0, some (.int z), a2, a3, a4] st M x = Rs L xs (d) 182 18 [a0, some (.int z), a2, a3, a4] (.int z :: st) M x := Rs_next c182_17 rfl
theorem c182_18 : qx_code 182 18 = some (18, .iload 4, 20, 0, 0, 0) := by decide +kernel
theorem s182_18 {L : Nat} {xs : Nat → Int32} {d x : Nat} {M : qxM} {st : List Value} {a0 a1 a2 a3 : Option Value} {z : Int32} : Rs L xs (d) 182 18 [a0, a1, a2, a3, some (.int z)] st M x = Rs L xs (d) 182 20 [a0, a1, a2, a3, some (.int z)] (.int z :: st) M x := Rs_next c182_18 rfl
theorem c182_20 : qx_code 182 20 = some (20, .iadd, 21, 0, 0, 0) := by decide +kernel
theorem s182_20 {L : Nat} {xs : Nat → Int32} {d x : Nat} {M : qxM} {st : List Value} {ls : qxL} {z y : Int32} : Rs L xs (d) 182 20 ls (.int y :: .int z :: st) M x = Rs L xs (d) 182 21 ls (.int (z + y) :: st) M x := Rs_next c182_20 rfl
theorem c182_21 : qx_code 182 21 = some (21, .iaload, 22, 0, 0, 0) := by decide +kernel
theorem s182_21 {L : Nat} {xs : Nat → Int32} {d x : Nat} {M : qxM} {st : List Value} {ls : qxL} {t : Nat} {j : Int32} (hk : qx_kd t = 0) (hj : qx_ib j (qx_ln t) = true) : Rs L xs (d) 182 21 ls (.int j :: .ref t :: st) M x = Rs L xs (d) 182 22 ls (.int (M.1 t j.toNatClampNeg) :: st) M x := by
  have h1 := qx_kd_row (k := 0) (by decide) hk
  exact Rs_unless (qx_ib_not hj) c182_21 (by unfold qx_act; dsimp only; rw [h1]; rfl)
theorem c182_22 : qx_code 182 22 = some (22, .iastore, 23, 0, 0, 0) := by decide +kernel
theorem s182_22 {L : Nat} {xs : Nat → Int32} {d x : Nat} {M : qxM} {st : List Value} {ls : qxL} {t : Nat} {j : Int32} {z : Int32} (hk : qx_kd t = 0) (hj : qx_ib j (qx_ln t) = true) : Rs L xs (d) 182 22 ls (.int z :: .int j :: .ref t :: st) M x = Rs L xs (d) 182 23 ls st (qx_up M t j.toNatClampNeg z) x := by
  have h1 := qx_kd_row (k := 0) (by decide) hk
  exact Rs_unless (qx_ib_not hj) c182_22 (by unfold qx_act; dsimp only; rw [h1]; rfl)
theorem c182_23 : qx_code 182 23 = some (23, .iinc 4 1, 26, 0, 0, 0) := by decide +kernel
theorem s182_23i {L : Nat} {xs : Nat → Int32} {d x : Nat} {M : qxM} {st : List Value} {a0 a1 a2 : Option Value} {z : Int32} {y : Int32} : Rs L xs (d) 182 23 [a0, a1, a2, some (.int y), some (.int z)] st M x = Rs L xs (d) 182 26 [a0, a1, a2, some (.int y), some (.int (z + (nI 1)))] st M x := Rs_next c182_23 rfl
theorem s182_23r {L : Nat} {xs : Nat → Int32} {d x : Nat} {M : qxM} {st : List Value} {a0 a1 a2 : Option Value} {z : Int32} {y : Nat} : Rs L xs (d) 182 23 [a0, a1, a2, some (.ref y), some (.int z)] st M x = Rs L xs (d) 182 26 [a0, a1, a2, some (.ref y), some (.int (z + (nI 1)))] st M x := Rs_next c182_23 rfl
theorem s182_23n {L : Nat} {xs : Nat → Int32} {d x : Nat} {M : qxM} {st : List Value} {a0 a1 a2 : Option Value} {z : Int32} : Rs L xs (d) 182 23 [a0, a1, a2, none, some (.int z)] st M x = Rs L xs (d) 182 26 [a0, a1, a2, none, some (.int (z + (nI 1)))] st M x := Rs_next c182_23 rfl
theorem c182_26 : qx_code 182 26 = some (26, .goto (-23), 29, 3, 0, 0) := by decide +kernel
theorem s182_26 {L : Nat} {xs : Nat → Int32} {d x : Nat} {M : qxM} {st : List Value} {ls : qxL} : Rs L xs (d) 182 26 ls st M x = Rs L xs (d) 182 3 ls st M x := Rs_next c182_26 rfl
theorem c182_29 : qx_code 182 29 = some (29, .return_, 30, 0, 0, 0) := by decide +kernel
theorem s182_29 {L : Nat} {xs : Nat → Int32} {d x : Nat} {M : qxM} {ls : qxL} : Rs L xs (d) 182 29 ls [] M x = some (.inl none, M, x) := Rs_ret c182_29 rfl
theorem c183_0 : qx_code 183 0 = some (0, .aload_n 0, 1, 0, 0, 0) := by decide +kernel
theorem s183_0 {L : Nat} {xs : Nat → Int32} {d x : Nat} {M : qxM} {st : List Value} {z : Nat} : Rs L xs (d) 183 0 [some (.ref z)] st M x = Rs L xs (d) 183 1 [some (.ref z)] (.ref z :: st) M x := Rs_next c183_0 rfl
theorem c183_1 : qx_code 183 1 = some (1, .getfield 9, 4, 8, 1, 1546) := by decide +kernel
theorem s183_1 {L : Nat} {xs : Nat → Int32} {d x : Nat} {M : qxM} {st : List Value} {ls : qxL} {t : Nat} (hk : qx_kd t = 18) : Rs L xs (d) 183 1 ls (.ref t :: st) M x = Rs L xs (d) 183 4 ls (.ref (t + 1) :: st) M x := Rs_when (qx_kd_obj (k := 8) (by decide) hk) c183_1 rfl
theorem c183_4 : qx_code 183 4 = some (4, .iconst 0, 5, 0, 0, 0) := by decide +kernel
theorem s183_4 {L : Nat} {xs : Nat → Int32} {d x : Nat} {M : qxM} {st : List Value} {ls : qxL} : Rs L xs (d) 183 4 ls st M x = Rs L xs (d) 183 5 ls (.int (nI 0) :: st) M x := Rs_next c183_4 rfl
theorem c183_5 : qx_code 183 5 = some (5, .aload_n 0, 6, 0, 0, 0) := by decide +kernel
theorem s183_5 {L : Nat} {xs : Nat → Int32} {d x : Nat} {M : qxM} {st : List Value} {z : Nat} : Rs L xs (d) 183 5 [some (.ref z)] st M x = Rs L xs (d) 183 6 [some (.ref z)] (.ref z :: st) M x := Rs_next c183_5 rfl
theorem c183_6 : qx_code 183 6 = some (6, .getfield 13, 9, 8, 2, 1547) := by decide +kernel
theorem s183_6 {L : Nat} {xs : Nat → Int32} {d x : Nat} {M : qxM} {st : List Value} {ls : qxL} {t : Nat} (hk : qx_kd t = 18) : Rs L xs (d) 183 6 ls (.ref t :: st) M x = Rs L xs (d) 183 9 ls (.ref (t + 2) :: st) M x := Rs_when (qx_kd_obj (k := 8) (by decide) hk) c183_6 rfl
theorem c183_9 : qx_code 183 9 = some (9, .iconst 0, 10, 0, 0, 0) := by decide +kernel
theorem s183_9 {L : Nat} {xs : Nat → Int32} {d x : Nat} {M : qxM} {st : List Value} {ls : qxL} : Rs L xs (d) 183 9 ls st M x = Rs L xs (d) 183 10 ls (.int (nI 0) :: st) M x := Rs_next c183_9 rfl
theorem c183_10 : qx_code 183 10 = some (10, .invokestatic 52, 13, 182, 4, 1652) := by decide +kernel
theorem s183_10 {L : Nat} {xs : Nat → Int32} {d x : Nat} {M : qxM} {st : List Value} {ls : qxL} {z0 : Nat} {z1 : Int32} {z2 : Nat} {z3 : Int32} (hs : st.length ≤ 4) : Rs L xs (d + 1) 183 10 ls (.int z3 :: .ref z2 :: .int z1 :: .ref z0 :: st) M x = (Rs L xs d 182 0 [some (.ref z0), some (.int z1), some (.ref z2), some (.int z3), none] [] M 0).bind (qx_kn L xs (d + 1) 183 10 13 182 ls st x) := by
  have h1 : qx_act L xs (qx_rt 183) (10, .invokestatic 52, 13, 182, 4, 1652) ls (.int z3 :: .ref z2 :: .int z1 :: .ref z0 :: st) M = if 4 ≤ (.int z3 :: .ref z2 :: .int z1 :: .ref z0 :: st).length ∧ st.length ≤ 4 then some (.inr (.inr (.inr (182, [.ref z0, .int z1, .ref z2, .int z3], st)))) else none := rfl
  rw [if_pos ⟨by simp [List.length_cons]; try omega, hs⟩] at h1
  exact Rs_call c183_10 h1 rfl
theorem c183_13 : qx_code 183 13 = some (13, .return_, 14, 0, 0, 0) := by decide +kernel
theorem s183_13 {L : Nat} {xs : Nat → Int32} {d x : Nat} {M : qxM} {ls : qxL} : Rs L xs (d) 183 13 ls [] M x = some (.inl none, M, x) := Rs_ret c183_13 rfl
theorem c208_0 : qx_code 208 0 = some (0, .iload_n 0, 1, 0, 0, 0) := by decide +kernel
theorem s208_0 {L : Nat} {xs : Nat → Int32} {d x : Nat} {M : qxM} {st : List Value} {a1 : Option Value} {z : Int32} : Rs L xs (d) 208 0 [some (.int z), a1] st M x = Rs L xs (d) 208 1 [some (.int z), a1] (.int z :: st) M x := Rs_next c208_0 rfl
theorem c208_1 : qx_code 208 1 = some (1, .iload_n 1, 2, 0, 0, 0) := by decide +kernel
theorem s208_1 {L : Nat} {xs : Nat → Int32} {d x : Nat} {M : qxM} {st : List Value} {a0 : Option Value} {z : Int32} : Rs L xs (d) 208 1 [a0, some (.int z)] st M x = Rs L xs (d) 208 2 [a0, some (.int z)] (.int z :: st) M x := Rs_next c208_1 rfl
theorem c208_2 : qx_code 208 2 = some (2, .ishr, 3, 0, 0, 0) := by decide +kernel
theorem s208_2 {L : Nat} {xs : Nat → Int32} {d x : Nat} {M : qxM} {st : List Value} {ls : qxL} {z y : Int32} : Rs L xs (d) 208 2 ls (.int y :: .int z :: st) M x = Rs L xs (d) 208 3 ls (.int (z >>> (y &&& 31)) :: st) M x := Rs_next c208_2 rfl
theorem c208_3 : qx_code 208 3 = some (3, .iconst 1, 4, 0, 0, 0) := by decide +kernel
theorem s208_3 {L : Nat} {xs : Nat → Int32} {d x : Nat} {M : qxM} {st : List Value} {ls : qxL} : Rs L xs (d) 208 3 ls st M x = Rs L xs (d) 208 4 ls (.int (nI 1) :: st) M x := Rs_next c208_3 rfl
theorem c208_4 : qx_code 208 4 = some (4, .iand, 5, 0, 0, 0) := by decide +kernel
theorem s208_4 {L : Nat} {xs : Nat → Int32} {d x : Nat} {M : qxM} {st : List Value} {ls : qxL} {z y : Int32} : Rs L xs (d) 208 4 ls (.int y :: .int z :: st) M x = Rs L xs (d) 208 5 ls (.int (z &&& y) :: st) M x := Rs_next c208_4 rfl
theorem c208_5 : qx_code 208 5 = some (5, .iconst 1, 6, 0, 0, 0) := by decide +kernel
theorem s208_5 {L : Nat} {xs : Nat → Int32} {d x : Nat} {M : qxM} {st : List Value} {ls : qxL} : Rs L xs (d) 208 5 ls st M x = Rs L xs (d) 208 6 ls (.int (nI 1) :: st) M x := Rs_next c208_5 rfl
theorem c208_6 : qx_code 208 6 = some (6, .if_icmp .ne 7, 9, 13, 0, 0) := by decide +kernel
theorem s208_6 {L : Nat} {xs : Nat → Int32} {d x : Nat} {M : qxM} {st : List Value} {ls : qxL} {z y : Int32} : Rs L xs (d) 208 6 ls (.int y :: .int z :: st) M x = if z = y then Rs L xs (d) 208 9 ls st M x else Rs L xs (d) 208 13 ls st M x := Rs_ite c208_6 rfl
theorem c208_9 : qx_code 208 9 = some (9, .iconst 1, 10, 0, 0, 0) := by decide +kernel
theorem s208_9 {L : Nat} {xs : Nat → Int32} {d x : Nat} {M : qxM} {st : List Value} {ls : qxL} : Rs L xs (d) 208 9 ls st M x = Rs L xs (d) 208 10 ls (.int (nI 1) :: st) M x := Rs_next c208_9 rfl
theorem c208_10 : qx_code 208 10 = some (10, .goto 4, 13, 14, 0, 0) := by decide +kernel
theorem s208_10 {L : Nat} {xs : Nat → Int32} {d x : Nat} {M : qxM} {st : List Value} {ls : qxL} : Rs L xs (d) 208 10 ls st M x = Rs L xs (d) 208 14 ls st M x := Rs_next c208_10 rfl
theorem c208_13 : qx_code 208 13 = some (13, .iconst 0, 14, 0, 0, 0) := by decide +kernel
theorem s208_13 {L : Nat} {xs : Nat → Int32} {d x : Nat} {M : qxM} {st : List Value} {ls : qxL} : Rs L xs (d) 208 13 ls st M x = Rs L xs (d) 208 14 ls (.int (nI 0) :: st) M x := Rs_next c208_13 rfl
theorem c208_14 : qx_code 208 14 = some (14, .ireturn, 15, 0, 0, 0) := by decide +kernel
theorem s208_14 {L : Nat} {xs : Nat → Int32} {d x : Nat} {M : qxM} {ls : qxL} {z : Int32} (h01 : z = 0 ∨ z = 1) : Rs L xs (d) 208 14 ls [.int z] M x = some (.inl (some (.int z)), M, x) := Rs_retw h01 c208_14 rfl
theorem c209_0 : qx_code 209 0 = some (0, .iconst 0, 1, 0, 0, 0) := by decide +kernel
theorem s209_0 {L : Nat} {xs : Nat → Int32} {d x : Nat} {M : qxM} {st : List Value} {ls : qxL} : Rs L xs (d) 209 0 ls st M x = Rs L xs (d) 209 1 ls (.int (nI 0) :: st) M x := Rs_next c209_0 rfl
theorem c209_1 : qx_code 209 1 = some (1, .istore_n 1, 2, 0, 0, 0) := by decide +kernel
theorem s209_1i {L : Nat} {xs : Nat → Int32} {d x : Nat} {M : qxM} {st : List Value} {a1 a2 : Option Value} {z : Int32} {y : Int32} : Rs L xs (d) 209 1 [some (.int y), a1, a2] (.int z :: st) M x = Rs L xs (d) 209 2 [some (.int y), some (.int z), a2] st M x := Rs_next c209_1 rfl
theorem s209_1r {L : Nat} {xs : Nat → Int32} {d x : Nat} {M : qxM} {st : List Value} {a1 a2 : Option Value} {z : Int32} {y : Nat} : Rs L xs (d) 209 1 [some (.ref y), a1, a2] (.int z :: st) M x = Rs L xs (d) 209 2 [some (.ref y), some (.int z), a2] st M x := Rs_next c209_1 rfl
theorem s209_1n {L : Nat} {xs : Nat → Int32} {d x : Nat} {M : qxM} {st : List Value} {a1 a2 : Option Value} {z : Int32} : Rs L xs (d) 209 1 [none, a1, a2] (.int z :: st) M x = Rs L xs (d) 209 2 [none, some (.int z), a2] st M x := Rs_next c209_1 rfl
theorem c209_2 : qx_code 209 2 = some (2, .iload_n 0, 3, 0, 0, 0) := by decide +kernel
theorem s209_2 {L : Nat} {xs : Nat → Int32} {d x : Nat} {M : qxM} {st : List Value} {a1 a2 : Option Value} {z : Int32} : Rs L xs (d) 209 2 [some (.int z), a1, a2] st M x = Rs L xs (d) 209 3 [some (.int z), a1, a2] (.int z :: st) M x := Rs_next c209_2 rfl
theorem c209_3 : qx_code 209 3 = some (3, .istore_n 2, 4, 0, 0, 0) := by decide +kernel
theorem s209_3i {L : Nat} {xs : Nat → Int32} {d x : Nat} {M : qxM} {st : List Value} {a0 a2 : Option Value} {z : Int32} {y : Int32} : Rs L xs (d) 209 3 [a0, some (.int y), a2] (.int z :: st) M x = Rs L xs (d) 209 4 [a0, some (.int y), some (.int z)] st M x := Rs_next c209_3 rfl
theorem s209_3r {L : Nat} {xs : Nat → Int32} {d x : Nat} {M : qxM} {st : List Value} {a0 a2 : Option Value} {z : Int32} {y : Nat} : Rs L xs (d) 209 3 [a0, some (.ref y), a2] (.int z :: st) M x = Rs L xs (d) 209 4 [a0, some (.ref y), some (.int z)] st M x := Rs_next c209_3 rfl
theorem s209_3n {L : Nat} {xs : Nat → Int32} {d x : Nat} {M : qxM} {st : List Value} {a0 a2 : Option Value} {z : Int32} : Rs L xs (d) 209 3 [a0, none, a2] (.int z :: st) M x = Rs L xs (d) 209 4 [a0, none, some (.int z)] st M x := Rs_next c209_3 rfl
theorem c209_4 : qx_code 209 4 = some (4, .iload_n 2, 5, 0, 0, 0) := by decide +kernel
theorem s209_4 {L : Nat} {xs : Nat → Int32} {d x : Nat} {M : qxM} {st : List Value} {a0 a1 : Option Value} {z : Int32} : Rs L xs (d) 209 4 [a0, a1, some (.int z)] st M x = Rs L xs (d) 209 5 [a0, a1, some (.int z)] (.int z :: st) M x := Rs_next c209_4 rfl
theorem c209_5 : qx_code 209 5 = some (5, .ifCond .eq 15, 8, 20, 0, 0) := by decide +kernel
theorem s209_5 {L : Nat} {xs : Nat → Int32} {d x : Nat} {M : qxM} {st : List Value} {ls : qxL} {z : Int32} : Rs L xs (d) 209 5 ls (.int z :: st) M x = if z = 0 then Rs L xs (d) 209 20 ls st M x else Rs L xs (d) 209 8 ls st M x := Rs_ite c209_5 rfl
theorem c209_8 : qx_code 209 8 = some (8, .iinc 1 1, 11, 0, 0, 0) := by decide +kernel
theorem s209_8i {L : Nat} {xs : Nat → Int32} {d x : Nat} {M : qxM} {st : List Value} {a2 : Option Value} {z : Int32} {y : Int32} : Rs L xs (d) 209 8 [some (.int y), some (.int z), a2] st M x = Rs L xs (d) 209 11 [some (.int y), some (.int (z + (nI 1))), a2] st M x := Rs_next c209_8 rfl
theorem s209_8r {L : Nat} {xs : Nat → Int32} {d x : Nat} {M : qxM} {st : List Value} {a2 : Option Value} {z : Int32} {y : Nat} : Rs L xs (d) 209 8 [some (.ref y), some (.int z), a2] st M x = Rs L xs (d) 209 11 [some (.ref y), some (.int (z + (nI 1))), a2] st M x := Rs_next c209_8 rfl
theorem s209_8n {L : Nat} {xs : Nat → Int32} {d x : Nat} {M : qxM} {st : List Value} {a2 : Option Value} {z : Int32} : Rs L xs (d) 209 8 [none, some (.int z), a2] st M x = Rs L xs (d) 209 11 [none, some (.int (z + (nI 1))), a2] st M x := Rs_next c209_8 rfl
theorem c209_11 : qx_code 209 11 = some (11, .iload_n 2, 12, 0, 0, 0) := by decide +kernel
theorem s209_11 {L : Nat} {xs : Nat → Int32} {d x : Nat} {M : qxM} {st : List Value} {a0 a1 : Option Value} {z : Int32} : Rs L xs (d) 209 11 [a0, a1, some (.int z)] st M x = Rs L xs (d) 209 12 [a0, a1, some (.int z)] (.int z :: st) M x := Rs_next c209_11 rfl
theorem c209_12 : qx_code 209 12 = some (12, .iload_n 2, 13, 0, 0, 0) := by decide +kernel
theorem s209_12 {L : Nat} {xs : Nat → Int32} {d x : Nat} {M : qxM} {st : List Value} {a0 a1 : Option Value} {z : Int32} : Rs L xs (d) 209 12 [a0, a1, some (.int z)] st M x = Rs L xs (d) 209 13 [a0, a1, some (.int z)] (.int z :: st) M x := Rs_next c209_12 rfl
theorem c209_13 : qx_code 209 13 = some (13, .iconst 1, 14, 0, 0, 0) := by decide +kernel
theorem s209_13 {L : Nat} {xs : Nat → Int32} {d x : Nat} {M : qxM} {st : List Value} {ls : qxL} : Rs L xs (d) 209 13 ls st M x = Rs L xs (d) 209 14 ls (.int (nI 1) :: st) M x := Rs_next c209_13 rfl
theorem c209_14 : qx_code 209 14 = some (14, .isub, 15, 0, 0, 0) := by decide +kernel
theorem s209_14 {L : Nat} {xs : Nat → Int32} {d x : Nat} {M : qxM} {st : List Value} {ls : qxL} {z y : Int32} : Rs L xs (d) 209 14 ls (.int y :: .int z :: st) M x = Rs L xs (d) 209 15 ls (.int (z - y) :: st) M x := Rs_next c209_14 rfl
theorem c209_15 : qx_code 209 15 = some (15, .iand, 16, 0, 0, 0) := by decide +kernel
theorem s209_15 {L : Nat} {xs : Nat → Int32} {d x : Nat} {M : qxM} {st : List Value} {ls : qxL} {z y : Int32} : Rs L xs (d) 209 15 ls (.int y :: .int z :: st) M x = Rs L xs (d) 209 16 ls (.int (z &&& y) :: st) M x := Rs_next c209_15 rfl
theorem c209_16 : qx_code 209 16 = some (16, .istore_n 2, 17, 0, 0, 0) := by decide +kernel
theorem s209_16i {L : Nat} {xs : Nat → Int32} {d x : Nat} {M : qxM} {st : List Value} {a0 a2 : Option Value} {z : Int32} {y : Int32} : Rs L xs (d) 209 16 [a0, some (.int y), a2] (.int z :: st) M x = Rs L xs (d) 209 17 [a0, some (.int y), some (.int z)] st M x := Rs_next c209_16 rfl
theorem s209_16r {L : Nat} {xs : Nat → Int32} {d x : Nat} {M : qxM} {st : List Value} {a0 a2 : Option Value} {z : Int32} {y : Nat} : Rs L xs (d) 209 16 [a0, some (.ref y), a2] (.int z :: st) M x = Rs L xs (d) 209 17 [a0, some (.ref y), some (.int z)] st M x := Rs_next c209_16 rfl
theorem s209_16n {L : Nat} {xs : Nat → Int32} {d x : Nat} {M : qxM} {st : List Value} {a0 a2 : Option Value} {z : Int32} : Rs L xs (d) 209 16 [a0, none, a2] (.int z :: st) M x = Rs L xs (d) 209 17 [a0, none, some (.int z)] st M x := Rs_next c209_16 rfl
theorem c209_17 : qx_code 209 17 = some (17, .goto (-13), 20, 4, 0, 0) := by decide +kernel
theorem s209_17 {L : Nat} {xs : Nat → Int32} {d x : Nat} {M : qxM} {st : List Value} {ls : qxL} : Rs L xs (d) 209 17 ls st M x = Rs L xs (d) 209 4 ls st M x := Rs_next c209_17 rfl
theorem c209_20 : qx_code 209 20 = some (20, .iload_n 1, 21, 0, 0, 0) := by decide +kernel
theorem s209_20 {L : Nat} {xs : Nat → Int32} {d x : Nat} {M : qxM} {st : List Value} {a0 a2 : Option Value} {z : Int32} : Rs L xs (d) 209 20 [a0, some (.int z), a2] st M x = Rs L xs (d) 209 21 [a0, some (.int z), a2] (.int z :: st) M x := Rs_next c209_20 rfl
theorem c209_21 : qx_code 209 21 = some (21, .ireturn, 22, 0, 0, 0) := by decide +kernel
theorem s209_21 {L : Nat} {xs : Nat → Int32} {d x : Nat} {M : qxM} {ls : qxL} {z : Int32} : Rs L xs (d) 209 21 ls [.int z] M x = some (.inl (some (.int z)), M, x) := Rs_ret c209_21 rfl
theorem c210_0 : qx_code 210 0 = some (0, .iload_n 0, 1, 0, 0, 0) := by decide +kernel
theorem s210_0 {L : Nat} {xs : Nat → Int32} {d x : Nat} {M : qxM} {st : List Value} {z : Int32} : Rs L xs (d) 210 0 [some (.int z)] st M x = Rs L xs (d) 210 1 [some (.int z)] (.int z :: st) M x := Rs_next c210_0 rfl
theorem c210_1 : qx_code 210 1 = some (1, .iload_n 0, 2, 0, 0, 0) := by decide +kernel
theorem s210_1 {L : Nat} {xs : Nat → Int32} {d x : Nat} {M : qxM} {st : List Value} {z : Int32} : Rs L xs (d) 210 1 [some (.int z)] st M x = Rs L xs (d) 210 2 [some (.int z)] (.int z :: st) M x := Rs_next c210_1 rfl
theorem c210_2 : qx_code 210 2 = some (2, .ineg, 3, 0, 0, 0) := by decide +kernel
theorem s210_2 {L : Nat} {xs : Nat → Int32} {d x : Nat} {M : qxM} {st : List Value} {ls : qxL} {z : Int32} : Rs L xs (d) 210 2 ls (.int z :: st) M x = Rs L xs (d) 210 3 ls (.int (-z) :: st) M x := Rs_next c210_2 rfl
theorem c210_3 : qx_code 210 3 = some (3, .iand, 4, 0, 0, 0) := by decide +kernel
theorem s210_3 {L : Nat} {xs : Nat → Int32} {d x : Nat} {M : qxM} {st : List Value} {ls : qxL} {z y : Int32} : Rs L xs (d) 210 3 ls (.int y :: .int z :: st) M x = Rs L xs (d) 210 4 ls (.int (z &&& y) :: st) M x := Rs_next c210_3 rfl
theorem c210_4 : qx_code 210 4 = some (4, .iconst 1, 5, 0, 0, 0) := by decide +kernel
theorem s210_4 {L : Nat} {xs : Nat → Int32} {d x : Nat} {M : qxM} {st : List Value} {ls : qxL} : Rs L xs (d) 210 4 ls st M x = Rs L xs (d) 210 5 ls (.int (nI 1) :: st) M x := Rs_next c210_4 rfl
theorem c210_5 : qx_code 210 5 = some (5, .isub, 6, 0, 0, 0) := by decide +kernel
theorem s210_5 {L : Nat} {xs : Nat → Int32} {d x : Nat} {M : qxM} {st : List Value} {ls : qxL} {z y : Int32} : Rs L xs (d) 210 5 ls (.int y :: .int z :: st) M x = Rs L xs (d) 210 6 ls (.int (z - y) :: st) M x := Rs_next c210_5 rfl
theorem c210_6 : qx_code 210 6 = some (6, .invokestatic 194, 9, 209, 1, 1788) := by decide +kernel
theorem s210_6 {L : Nat} {xs : Nat → Int32} {d x : Nat} {M : qxM} {st : List Value} {ls : qxL} {z0 : Int32} (hs : st.length ≤ 4) : Rs L xs (d + 1) 210 6 ls (.int z0 :: st) M x = (Rs L xs d 209 0 [some (.int z0), none, none] [] M 0).bind (qx_kn L xs (d + 1) 210 6 9 209 ls st x) := by
  have h1 : qx_act L xs (qx_rt 210) (6, .invokestatic 194, 9, 209, 1, 1788) ls (.int z0 :: st) M = if 1 ≤ (.int z0 :: st).length ∧ st.length ≤ 4 then some (.inr (.inr (.inr (209, [.int z0], st)))) else none := rfl
  rw [if_pos ⟨by simp [List.length_cons]; try omega, hs⟩] at h1
  exact Rs_call c210_6 h1 rfl
theorem c210_9 : qx_code 210 9 = some (9, .ireturn, 10, 0, 0, 0) := by decide +kernel
theorem s210_9 {L : Nat} {xs : Nat → Int32} {d x : Nat} {M : qxM} {ls : qxL} {z : Int32} : Rs L xs (d) 210 9 ls [.int z] M x = some (.inl (some (.int z)), M, x) := Rs_ret c210_9 rfl
theorem c211_0 : qx_code 211 0 = some (0, .iload_n 1, 1, 0, 0, 0) := by decide +kernel
theorem s211_0 {L : Nat} {xs : Nat → Int32} {d x : Nat} {M : qxM} {st : List Value} {a0 : Option Value} {z : Int32} : Rs L xs (d) 211 0 [a0, some (.int z)] st M x = Rs L xs (d) 211 1 [a0, some (.int z)] (.int z :: st) M x := Rs_next c211_0 rfl
theorem c211_1 : qx_code 211 1 = some (1, .iconst 0, 2, 0, 0, 0) := by decide +kernel
theorem s211_1 {L : Nat} {xs : Nat → Int32} {d x : Nat} {M : qxM} {st : List Value} {ls : qxL} : Rs L xs (d) 211 1 ls st M x = Rs L xs (d) 211 2 ls (.int (nI 0) :: st) M x := Rs_next c211_1 rfl
theorem c211_2 : qx_code 211 2 = some (2, .aload_n 0, 3, 0, 0, 0) := by decide +kernel
theorem s211_2 {L : Nat} {xs : Nat → Int32} {d x : Nat} {M : qxM} {st : List Value} {a1 : Option Value} {z : Nat} : Rs L xs (d) 211 2 [some (.ref z), a1] st M x = Rs L xs (d) 211 3 [some (.ref z), a1] (.ref z :: st) M x := Rs_next c211_2 rfl
theorem c211_3 : qx_code 211 3 = some (3, .getfield 9, 6, 8, 1, 1546) := by decide +kernel
theorem s211_3 {L : Nat} {xs : Nat → Int32} {d x : Nat} {M : qxM} {st : List Value} {ls : qxL} {t : Nat} (hk : qx_kd t = 18) : Rs L xs (d) 211 3 ls (.ref t :: st) M x = Rs L xs (d) 211 6 ls (.ref (t + 1) :: st) M x := Rs_when (qx_kd_obj (k := 8) (by decide) hk) c211_3 rfl
theorem c211_6 : qx_code 211 6 = some (6, .iconst 0, 7, 0, 0, 0) := by decide +kernel
theorem s211_6 {L : Nat} {xs : Nat → Int32} {d x : Nat} {M : qxM} {st : List Value} {ls : qxL} : Rs L xs (d) 211 6 ls st M x = Rs L xs (d) 211 7 ls (.int (nI 0) :: st) M x := Rs_next c211_6 rfl
theorem c211_7 : qx_code 211 7 = some (7, .iaload, 8, 0, 0, 0) := by decide +kernel
theorem s211_7 {L : Nat} {xs : Nat → Int32} {d x : Nat} {M : qxM} {st : List Value} {ls : qxL} {t : Nat} {j : Int32} (hk : qx_kd t = 0) (hj : qx_ib j (qx_ln t) = true) : Rs L xs (d) 211 7 ls (.int j :: .ref t :: st) M x = Rs L xs (d) 211 8 ls (.int (M.1 t j.toNatClampNeg) :: st) M x := by
  have h1 := qx_kd_row (k := 0) (by decide) hk
  exact Rs_unless (qx_ib_not hj) c211_7 (by unfold qx_act; dsimp only; rw [h1]; rfl)
theorem c211_8 : qx_code 211 8 = some (8, .iconst 1, 9, 0, 0, 0) := by decide +kernel
theorem s211_8 {L : Nat} {xs : Nat → Int32} {d x : Nat} {M : qxM} {st : List Value} {ls : qxL} : Rs L xs (d) 211 8 ls st M x = Rs L xs (d) 211 9 ls (.int (nI 1) :: st) M x := Rs_next c211_8 rfl
theorem c211_9 : qx_code 211 9 = some (9, .isub, 10, 0, 0, 0) := by decide +kernel
theorem s211_9 {L : Nat} {xs : Nat → Int32} {d x : Nat} {M : qxM} {st : List Value} {ls : qxL} {z y : Int32} : Rs L xs (d) 211 9 ls (.int y :: .int z :: st) M x = Rs L xs (d) 211 10 ls (.int (z - y) :: st) M x := Rs_next c211_9 rfl
theorem c211_10 : qx_code 211 10 = some (10, .invokestatic 69, 13, 178, 3, 1641) := by decide +kernel
theorem s211_10 {L : Nat} {xs : Nat → Int32} {d x : Nat} {M : qxM} {st : List Value} {ls : qxL} {z0 : Int32} {z1 : Int32} {z2 : Int32} (hs : st.length ≤ 4) : Rs L xs (d + 1) 211 10 ls (.int z2 :: .int z1 :: .int z0 :: st) M x = (Rs L xs d 178 0 [some (.int z0), some (.int z1), some (.int z2)] [] M 0).bind (qx_kn L xs (d + 1) 211 10 13 178 ls st x) := by
  have h1 : qx_act L xs (qx_rt 211) (10, .invokestatic 69, 13, 178, 3, 1641) ls (.int z2 :: .int z1 :: .int z0 :: st) M = if 3 ≤ (.int z2 :: .int z1 :: .int z0 :: st).length ∧ st.length ≤ 4 then some (.inr (.inr (.inr (178, [.int z0, .int z1, .int z2], st)))) else none := rfl
  rw [if_pos ⟨by simp [List.length_cons]; try omega, hs⟩] at h1
  exact Rs_call c211_10 h1 rfl
theorem c211_13 : qx_code 211 13 = some (13, .ireturn, 14, 0, 0, 0) := by decide +kernel
theorem s211_13 {L : Nat} {xs : Nat → Int32} {d x : Nat} {M : qxM} {ls : qxL} {z : Int32} (h01 : z = 0 ∨ z = 1) : Rs L xs (d) 211 13 ls [.int z] M x = some (.inl (some (.int z)), M, x) := Rs_retw h01 c211_13 rfl
theorem c212_0 : qx_code 212 0 = some (0, .iconst 1, 1, 0, 0, 0) := by decide +kernel
theorem s212_0 {L : Nat} {xs : Nat → Int32} {d x : Nat} {M : qxM} {st : List Value} {ls : qxL} : Rs L xs (d) 212 0 ls st M x = Rs L xs (d) 212 1 ls (.int (nI 1) :: st) M x := Rs_next c212_0 rfl
theorem c212_1 : qx_code 212 1 = some (1, .aload_n 0, 2, 0, 0, 0) := by decide +kernel
theorem s212_1 {L : Nat} {xs : Nat → Int32} {d x : Nat} {M : qxM} {st : List Value} {z : Nat} : Rs L xs (d) 212 1 [some (.ref z)] st M x = Rs L xs (d) 212 2 [some (.ref z)] (.ref z :: st) M x := Rs_next c212_1 rfl
theorem c212_2 : qx_code 212 2 = some (2, .getfield 9, 5, 8, 1, 1546) := by decide +kernel
theorem s212_2 {L : Nat} {xs : Nat → Int32} {d x : Nat} {M : qxM} {st : List Value} {ls : qxL} {t : Nat} (hk : qx_kd t = 18) : Rs L xs (d) 212 2 ls (.ref t :: st) M x = Rs L xs (d) 212 5 ls (.ref (t + 1) :: st) M x := Rs_when (qx_kd_obj (k := 8) (by decide) hk) c212_2 rfl
theorem c212_5 : qx_code 212 5 = some (5, .iconst 0, 6, 0, 0, 0) := by decide +kernel
theorem s212_5 {L : Nat} {xs : Nat → Int32} {d x : Nat} {M : qxM} {st : List Value} {ls : qxL} : Rs L xs (d) 212 5 ls st M x = Rs L xs (d) 212 6 ls (.int (nI 0) :: st) M x := Rs_next c212_5 rfl
theorem c212_6 : qx_code 212 6 = some (6, .iaload, 7, 0, 0, 0) := by decide +kernel
theorem s212_6 {L : Nat} {xs : Nat → Int32} {d x : Nat} {M : qxM} {st : List Value} {ls : qxL} {t : Nat} {j : Int32} (hk : qx_kd t = 0) (hj : qx_ib j (qx_ln t) = true) : Rs L xs (d) 212 6 ls (.int j :: .ref t :: st) M x = Rs L xs (d) 212 7 ls (.int (M.1 t j.toNatClampNeg) :: st) M x := by
  have h1 := qx_kd_row (k := 0) (by decide) hk
  exact Rs_unless (qx_ib_not hj) c212_6 (by unfold qx_act; dsimp only; rw [h1]; rfl)
theorem c212_7 : qx_code 212 7 = some (7, .ishl, 8, 0, 0, 0) := by decide +kernel
theorem s212_7 {L : Nat} {xs : Nat → Int32} {d x : Nat} {M : qxM} {st : List Value} {ls : qxL} {z y : Int32} : Rs L xs (d) 212 7 ls (.int y :: .int z :: st) M x = Rs L xs (d) 212 8 ls (.int (z <<< (y &&& 31)) :: st) M x := Rs_next c212_7 rfl
theorem c212_8 : qx_code 212 8 = some (8, .iconst 1, 9, 0, 0, 0) := by decide +kernel
theorem s212_8 {L : Nat} {xs : Nat → Int32} {d x : Nat} {M : qxM} {st : List Value} {ls : qxL} : Rs L xs (d) 212 8 ls st M x = Rs L xs (d) 212 9 ls (.int (nI 1) :: st) M x := Rs_next c212_8 rfl
theorem c212_9 : qx_code 212 9 = some (9, .isub, 10, 0, 0, 0) := by decide +kernel
theorem s212_9 {L : Nat} {xs : Nat → Int32} {d x : Nat} {M : qxM} {st : List Value} {ls : qxL} {z y : Int32} : Rs L xs (d) 212 9 ls (.int y :: .int z :: st) M x = Rs L xs (d) 212 10 ls (.int (z - y) :: st) M x := Rs_next c212_9 rfl
theorem c212_10 : qx_code 212 10 = some (10, .ireturn, 11, 0, 0, 0) := by decide +kernel
theorem s212_10 {L : Nat} {xs : Nat → Int32} {d x : Nat} {M : qxM} {ls : qxL} {z : Int32} : Rs L xs (d) 212 10 ls [.int z] M x = some (.inl (some (.int z)), M, x) := Rs_ret c212_10 rfl
theorem c213_0 : qx_code 213 0 = some (0, .aload_n 0, 1, 0, 0, 0) := by decide +kernel
theorem s213_0 {L : Nat} {xs : Nat → Int32} {d x : Nat} {M : qxM} {st : List Value} {a1 : Option Value} {z : Nat} : Rs L xs (d) 213 0 [some (.ref z), a1] st M x = Rs L xs (d) 213 1 [some (.ref z), a1] (.ref z :: st) M x := Rs_next c213_0 rfl
theorem c213_1 : qx_code 213 1 = some (1, .getfield 9, 4, 8, 1, 1546) := by decide +kernel
theorem s213_1 {L : Nat} {xs : Nat → Int32} {d x : Nat} {M : qxM} {st : List Value} {ls : qxL} {t : Nat} (hk : qx_kd t = 18) : Rs L xs (d) 213 1 ls (.ref t :: st) M x = Rs L xs (d) 213 4 ls (.ref (t + 1) :: st) M x := Rs_when (qx_kd_obj (k := 8) (by decide) hk) c213_1 rfl
theorem c213_4 : qx_code 213 4 = some (4, .bipush 21, 6, 0, 0, 0) := by decide +kernel
theorem s213_4 {L : Nat} {xs : Nat → Int32} {d x : Nat} {M : qxM} {st : List Value} {ls : qxL} : Rs L xs (d) 213 4 ls st M x = Rs L xs (d) 213 6 ls (.int (nI 21) :: st) M x := Rs_next c213_4 rfl
theorem c213_6 : qx_code 213 6 = some (6, .iload_n 1, 7, 0, 0, 0) := by decide +kernel
theorem s213_6 {L : Nat} {xs : Nat → Int32} {d x : Nat} {M : qxM} {st : List Value} {a0 : Option Value} {z : Int32} : Rs L xs (d) 213 6 [a0, some (.int z)] st M x = Rs L xs (d) 213 7 [a0, some (.int z)] (.int z :: st) M x := Rs_next c213_6 rfl
theorem c213_7 : qx_code 213 7 = some (7, .iadd, 8, 0, 0, 0) := by decide +kernel
theorem s213_7 {L : Nat} {xs : Nat → Int32} {d x : Nat} {M : qxM} {st : List Value} {ls : qxL} {z y : Int32} : Rs L xs (d) 213 7 ls (.int y :: .int z :: st) M x = Rs L xs (d) 213 8 ls (.int (z + y) :: st) M x := Rs_next c213_7 rfl
theorem c213_8 : qx_code 213 8 = some (8, .iaload, 9, 0, 0, 0) := by decide +kernel
theorem s213_8 {L : Nat} {xs : Nat → Int32} {d x : Nat} {M : qxM} {st : List Value} {ls : qxL} {t : Nat} {j : Int32} (hk : qx_kd t = 0) (hj : qx_ib j (qx_ln t) = true) : Rs L xs (d) 213 8 ls (.int j :: .ref t :: st) M x = Rs L xs (d) 213 9 ls (.int (M.1 t j.toNatClampNeg) :: st) M x := by
  have h1 := qx_kd_row (k := 0) (by decide) hk
  exact Rs_unless (qx_ib_not hj) c213_8 (by unfold qx_act; dsimp only; rw [h1]; rfl)
theorem c213_9 : qx_code 213 9 = some (9, .ireturn, 10, 0, 0, 0) := by decide +kernel
theorem s213_9 {L : Nat} {xs : Nat → Int32} {d x : Nat} {M : qxM} {ls : qxL} {z : Int32} : Rs L xs (d) 213 9 ls [.int z] M x = some (.inl (some (.int z)), M, x) := Rs_ret c213_9 rfl
theorem c214_0 : qx_code 214 0 = some (0, .aload_n 0, 1, 0, 0, 0) := by decide +kernel
theorem s214_0 {L : Nat} {xs : Nat → Int32} {d x : Nat} {M : qxM} {st : List Value} {a1 a2 : Option Value} {z : Nat} : Rs L xs (d) 214 0 [some (.ref z), a1, a2] st M x = Rs L xs (d) 214 1 [some (.ref z), a1, a2] (.ref z :: st) M x := Rs_next c214_0 rfl
theorem c214_1 : qx_code 214 1 = some (1, .getfield 9, 4, 8, 1, 1546) := by decide +kernel
theorem s214_1 {L : Nat} {xs : Nat → Int32} {d x : Nat} {M : qxM} {st : List Value} {ls : qxL} {t : Nat} (hk : qx_kd t = 18) : Rs L xs (d) 214 1 ls (.ref t :: st) M x = Rs L xs (d) 214 4 ls (.ref (t + 1) :: st) M x := Rs_when (qx_kd_obj (k := 8) (by decide) hk) c214_1 rfl
theorem c214_4 : qx_code 214 4 = some (4, .bipush 21, 6, 0, 0, 0) := by decide +kernel
theorem s214_4 {L : Nat} {xs : Nat → Int32} {d x : Nat} {M : qxM} {st : List Value} {ls : qxL} : Rs L xs (d) 214 4 ls st M x = Rs L xs (d) 214 6 ls (.int (nI 21) :: st) M x := Rs_next c214_4 rfl
theorem c214_6 : qx_code 214 6 = some (6, .iload_n 1, 7, 0, 0, 0) := by decide +kernel
theorem s214_6 {L : Nat} {xs : Nat → Int32} {d x : Nat} {M : qxM} {st : List Value} {a0 a2 : Option Value} {z : Int32} : Rs L xs (d) 214 6 [a0, some (.int z), a2] st M x = Rs L xs (d) 214 7 [a0, some (.int z), a2] (.int z :: st) M x := Rs_next c214_6 rfl
theorem c214_7 : qx_code 214 7 = some (7, .iadd, 8, 0, 0, 0) := by decide +kernel
theorem s214_7 {L : Nat} {xs : Nat → Int32} {d x : Nat} {M : qxM} {st : List Value} {ls : qxL} {z y : Int32} : Rs L xs (d) 214 7 ls (.int y :: .int z :: st) M x = Rs L xs (d) 214 8 ls (.int (z + y) :: st) M x := Rs_next c214_7 rfl
theorem c214_8 : qx_code 214 8 = some (8, .iload_n 2, 9, 0, 0, 0) := by decide +kernel
theorem s214_8 {L : Nat} {xs : Nat → Int32} {d x : Nat} {M : qxM} {st : List Value} {a0 a1 : Option Value} {z : Int32} : Rs L xs (d) 214 8 [a0, a1, some (.int z)] st M x = Rs L xs (d) 214 9 [a0, a1, some (.int z)] (.int z :: st) M x := Rs_next c214_8 rfl
theorem c214_9 : qx_code 214 9 = some (9, .iastore, 10, 0, 0, 0) := by decide +kernel
theorem s214_9 {L : Nat} {xs : Nat → Int32} {d x : Nat} {M : qxM} {st : List Value} {ls : qxL} {t : Nat} {j : Int32} {z : Int32} (hk : qx_kd t = 0) (hj : qx_ib j (qx_ln t) = true) : Rs L xs (d) 214 9 ls (.int z :: .int j :: .ref t :: st) M x = Rs L xs (d) 214 10 ls st (qx_up M t j.toNatClampNeg z) x := by
  have h1 := qx_kd_row (k := 0) (by decide) hk
  exact Rs_unless (qx_ib_not hj) c214_9 (by unfold qx_act; dsimp only; rw [h1]; rfl)
theorem c214_10 : qx_code 214 10 = some (10, .aload_n 0, 11, 0, 0, 0) := by decide +kernel
theorem s214_10 {L : Nat} {xs : Nat → Int32} {d x : Nat} {M : qxM} {st : List Value} {a1 a2 : Option Value} {z : Nat} : Rs L xs (d) 214 10 [some (.ref z), a1, a2] st M x = Rs L xs (d) 214 11 [some (.ref z), a1, a2] (.ref z :: st) M x := Rs_next c214_10 rfl
theorem c214_11 : qx_code 214 11 = some (11, .getfield 9, 14, 8, 1, 1546) := by decide +kernel
theorem s214_11 {L : Nat} {xs : Nat → Int32} {d x : Nat} {M : qxM} {st : List Value} {ls : qxL} {t : Nat} (hk : qx_kd t = 18) : Rs L xs (d) 214 11 ls (.ref t :: st) M x = Rs L xs (d) 214 14 ls (.ref (t + 1) :: st) M x := Rs_when (qx_kd_obj (k := 8) (by decide) hk) c214_11 rfl
theorem c214_14 : qx_code 214 14 = some (14, .bipush 21, 16, 0, 0, 0) := by decide +kernel
theorem s214_14 {L : Nat} {xs : Nat → Int32} {d x : Nat} {M : qxM} {st : List Value} {ls : qxL} : Rs L xs (d) 214 14 ls st M x = Rs L xs (d) 214 16 ls (.int (nI 21) :: st) M x := Rs_next c214_14 rfl
theorem c214_16 : qx_code 214 16 = some (16, .iload_n 2, 17, 0, 0, 0) := by decide +kernel
theorem s214_16 {L : Nat} {xs : Nat → Int32} {d x : Nat} {M : qxM} {st : List Value} {a0 a1 : Option Value} {z : Int32} : Rs L xs (d) 214 16 [a0, a1, some (.int z)] st M x = Rs L xs (d) 214 17 [a0, a1, some (.int z)] (.int z :: st) M x := Rs_next c214_16 rfl
theorem c214_17 : qx_code 214 17 = some (17, .iadd, 18, 0, 0, 0) := by decide +kernel
theorem s214_17 {L : Nat} {xs : Nat → Int32} {d x : Nat} {M : qxM} {st : List Value} {ls : qxL} {z y : Int32} : Rs L xs (d) 214 17 ls (.int y :: .int z :: st) M x = Rs L xs (d) 214 18 ls (.int (z + y) :: st) M x := Rs_next c214_17 rfl
theorem c214_18 : qx_code 214 18 = some (18, .iload_n 1, 19, 0, 0, 0) := by decide +kernel
theorem s214_18 {L : Nat} {xs : Nat → Int32} {d x : Nat} {M : qxM} {st : List Value} {a0 a2 : Option Value} {z : Int32} : Rs L xs (d) 214 18 [a0, some (.int z), a2] st M x = Rs L xs (d) 214 19 [a0, some (.int z), a2] (.int z :: st) M x := Rs_next c214_18 rfl
theorem c214_19 : qx_code 214 19 = some (19, .iastore, 20, 0, 0, 0) := by decide +kernel
theorem s214_19 {L : Nat} {xs : Nat → Int32} {d x : Nat} {M : qxM} {st : List Value} {ls : qxL} {t : Nat} {j : Int32} {z : Int32} (hk : qx_kd t = 0) (hj : qx_ib j (qx_ln t) = true) : Rs L xs (d) 214 19 ls (.int z :: .int j :: .ref t :: st) M x = Rs L xs (d) 214 20 ls st (qx_up M t j.toNatClampNeg z) x := by
  have h1 := qx_kd_row (k := 0) (by decide) hk
  exact Rs_unless (qx_ib_not hj) c214_19 (by unfold qx_act; dsimp only; rw [h1]; rfl)
theorem c214_20 : qx_code 214 20 = some (20, .return_, 21, 0, 0, 0) := by decide +kernel
theorem s214_20 {L : Nat} {xs : Nat → Int32} {d x : Nat} {M : qxM} {ls : qxL} : Rs L xs (d) 214 20 ls [] M x = some (.inl none, M, x) := Rs_ret c214_20 rfl
theorem c215_0 : qx_code 215 0 = some (0, .aload_n 0, 1, 0, 0, 0) := by decide +kernel
theorem s215_0 {L : Nat} {xs : Nat → Int32} {d x : Nat} {M : qxM} {st : List Value} {a1 : Option Value} {z : Nat} : Rs L xs (d) 215 0 [some (.ref z), a1] st M x = Rs L xs (d) 215 1 [some (.ref z), a1] (.ref z :: st) M x := Rs_next c215_0 rfl
theorem c215_1 : qx_code 215 1 = some (1, .getfield 9, 4, 8, 1, 1546) := by decide +kernel
theorem s215_1 {L : Nat} {xs : Nat → Int32} {d x : Nat} {M : qxM} {st : List Value} {ls : qxL} {t : Nat} (hk : qx_kd t = 18) : Rs L xs (d) 215 1 ls (.ref t :: st) M x = Rs L xs (d) 215 4 ls (.ref (t + 1) :: st) M x := Rs_when (qx_kd_obj (k := 8) (by decide) hk) c215_1 rfl
theorem c215_4 : qx_code 215 4 = some (4, .bipush 21, 6, 0, 0, 0) := by decide +kernel
theorem s215_4 {L : Nat} {xs : Nat → Int32} {d x : Nat} {M : qxM} {st : List Value} {ls : qxL} : Rs L xs (d) 215 4 ls st M x = Rs L xs (d) 215 6 ls (.int (nI 21) :: st) M x := Rs_next c215_4 rfl
theorem c215_6 : qx_code 215 6 = some (6, .aload_n 0, 7, 0, 0, 0) := by decide +kernel
theorem s215_6 {L : Nat} {xs : Nat → Int32} {d x : Nat} {M : qxM} {st : List Value} {a1 : Option Value} {z : Nat} : Rs L xs (d) 215 6 [some (.ref z), a1] st M x = Rs L xs (d) 215 7 [some (.ref z), a1] (.ref z :: st) M x := Rs_next c215_6 rfl
theorem c215_7 : qx_code 215 7 = some (7, .iload_n 1, 8, 0, 0, 0) := by decide +kernel
theorem s215_7 {L : Nat} {xs : Nat → Int32} {d x : Nat} {M : qxM} {st : List Value} {a0 : Option Value} {z : Int32} : Rs L xs (d) 215 7 [a0, some (.int z)] st M x = Rs L xs (d) 215 8 [a0, some (.int z)] (.int z :: st) M x := Rs_next c215_7 rfl
theorem c215_8 : qx_code 215 8 = some (8, .invokevirtual 132, 11, 213, 2, 1737) := by decide +kernel
theorem s215_8 {L : Nat} {xs : Nat → Int32} {d x : Nat} {M : qxM} {st : List Value} {ls : qxL} {t : Nat} {z0 : Int32} (hk : qx_kd t = 18) (hs : st.length ≤ 4) : Rs L xs (d + 1) 215 8 ls (.int z0 :: .ref t :: st) M x = (Rs L xs d 213 0 [some (.ref t), some (.int z0)] [] M 0).bind (qx_kn L xs (d + 1) 215 8 11 213 ls st x) := by
  have h1 : qx_act L xs (qx_rt 215) (8, .invokevirtual 132, 11, 213, 2, 1737) ls (.int z0 :: .ref t :: st) M = if 2 ≤ (.int z0 :: .ref t :: st).length ∧ st.length ≤ 4 then some (.inr (.inr (.inr (213, [.ref t, .int z0], st)))) else none := rfl
  rw [if_pos ⟨by simp [List.length_cons]; try omega, hs⟩] at h1
  have h2 := qx_kd_obj (k := 8) (by decide) hk
  exact Rs_call c215_8 h1 (by rw [show qx_args 213 [.ref t, .int z0] = decide (qx_sh t = some (.inl 8)) from rfl]; exact decide_eq_true h2)
theorem c215_11 : qx_code 215 11 = some (11, .iadd, 12, 0, 0, 0) := by decide +kernel
theorem s215_11 {L : Nat} {xs : Nat → Int32} {d x : Nat} {M : qxM} {st : List Value} {ls : qxL} {z y : Int32} : Rs L xs (d) 215 11 ls (.int y :: .int z :: st) M x = Rs L xs (d) 215 12 ls (.int (z + y) :: st) M x := Rs_next c215_11 rfl
theorem c215_12 : qx_code 215 12 = some (12, .iconst (-1), 13, 0, 0, 0) := by decide +kernel
theorem s215_12 {L : Nat} {xs : Nat → Int32} {d x : Nat} {M : qxM} {st : List Value} {ls : qxL} : Rs L xs (d) 215 12 ls st M x = Rs L xs (d) 215 13 ls (.int (-1) :: st) M x := Rs_next c215_12 rfl
theorem c215_13 : qx_code 215 13 = some (13, .iastore, 14, 0, 0, 0) := by decide +kernel
theorem s215_13 {L : Nat} {xs : Nat → Int32} {d x : Nat} {M : qxM} {st : List Value} {ls : qxL} {t : Nat} {j : Int32} {z : Int32} (hk : qx_kd t = 0) (hj : qx_ib j (qx_ln t) = true) : Rs L xs (d) 215 13 ls (.int z :: .int j :: .ref t :: st) M x = Rs L xs (d) 215 14 ls st (qx_up M t j.toNatClampNeg z) x := by
  have h1 := qx_kd_row (k := 0) (by decide) hk
  exact Rs_unless (qx_ib_not hj) c215_13 (by unfold qx_act; dsimp only; rw [h1]; rfl)
theorem c215_14 : qx_code 215 14 = some (14, .aload_n 0, 15, 0, 0, 0) := by decide +kernel
theorem s215_14 {L : Nat} {xs : Nat → Int32} {d x : Nat} {M : qxM} {st : List Value} {a1 : Option Value} {z : Nat} : Rs L xs (d) 215 14 [some (.ref z), a1] st M x = Rs L xs (d) 215 15 [some (.ref z), a1] (.ref z :: st) M x := Rs_next c215_14 rfl
theorem c215_15 : qx_code 215 15 = some (15, .getfield 9, 18, 8, 1, 1546) := by decide +kernel
theorem s215_15 {L : Nat} {xs : Nat → Int32} {d x : Nat} {M : qxM} {st : List Value} {ls : qxL} {t : Nat} (hk : qx_kd t = 18) : Rs L xs (d) 215 15 ls (.ref t :: st) M x = Rs L xs (d) 215 18 ls (.ref (t + 1) :: st) M x := Rs_when (qx_kd_obj (k := 8) (by decide) hk) c215_15 rfl
theorem c215_18 : qx_code 215 18 = some (18, .bipush 21, 20, 0, 0, 0) := by decide +kernel
theorem s215_18 {L : Nat} {xs : Nat → Int32} {d x : Nat} {M : qxM} {st : List Value} {ls : qxL} : Rs L xs (d) 215 18 ls st M x = Rs L xs (d) 215 20 ls (.int (nI 21) :: st) M x := Rs_next c215_18 rfl
theorem c215_20 : qx_code 215 20 = some (20, .iload_n 1, 21, 0, 0, 0) := by decide +kernel
theorem s215_20 {L : Nat} {xs : Nat → Int32} {d x : Nat} {M : qxM} {st : List Value} {a0 : Option Value} {z : Int32} : Rs L xs (d) 215 20 [a0, some (.int z)] st M x = Rs L xs (d) 215 21 [a0, some (.int z)] (.int z :: st) M x := Rs_next c215_20 rfl
theorem c215_21 : qx_code 215 21 = some (21, .iadd, 22, 0, 0, 0) := by decide +kernel
theorem s215_21 {L : Nat} {xs : Nat → Int32} {d x : Nat} {M : qxM} {st : List Value} {ls : qxL} {z y : Int32} : Rs L xs (d) 215 21 ls (.int y :: .int z :: st) M x = Rs L xs (d) 215 22 ls (.int (z + y) :: st) M x := Rs_next c215_21 rfl
theorem c215_22 : qx_code 215 22 = some (22, .iconst (-1), 23, 0, 0, 0) := by decide +kernel
theorem s215_22 {L : Nat} {xs : Nat → Int32} {d x : Nat} {M : qxM} {st : List Value} {ls : qxL} : Rs L xs (d) 215 22 ls st M x = Rs L xs (d) 215 23 ls (.int (-1) :: st) M x := Rs_next c215_22 rfl
theorem c215_23 : qx_code 215 23 = some (23, .iastore, 24, 0, 0, 0) := by decide +kernel
theorem s215_23 {L : Nat} {xs : Nat → Int32} {d x : Nat} {M : qxM} {st : List Value} {ls : qxL} {t : Nat} {j : Int32} {z : Int32} (hk : qx_kd t = 0) (hj : qx_ib j (qx_ln t) = true) : Rs L xs (d) 215 23 ls (.int z :: .int j :: .ref t :: st) M x = Rs L xs (d) 215 24 ls st (qx_up M t j.toNatClampNeg z) x := by
  have h1 := qx_kd_row (k := 0) (by decide) hk
  exact Rs_unless (qx_ib_not hj) c215_23 (by unfold qx_act; dsimp only; rw [h1]; rfl)
theorem c215_24 : qx_code 215 24 = some (24, .return_, 25, 0, 0, 0) := by decide +kernel
theorem s215_24 {L : Nat} {xs : Nat → Int32} {d x : Nat} {M : qxM} {ls : qxL} : Rs L xs (d) 215 24 ls [] M x = some (.inl none, M, x) := Rs_ret c215_24 rfl
theorem c216_0 : qx_code 216 0 = some (0, .aload_n 0, 1, 0, 0, 0) := by decide +kernel
theorem s216_0 {L : Nat} {xs : Nat → Int32} {d x : Nat} {M : qxM} {st : List Value} {a1 a2 : Option Value} {z : Nat} : Rs L xs (d) 216 0 [some (.ref z), a1, a2] st M x = Rs L xs (d) 216 1 [some (.ref z), a1, a2] (.ref z :: st) M x := Rs_next c216_0 rfl
theorem c216_1 : qx_code 216 1 = some (1, .getfield 9, 4, 8, 1, 1546) := by decide +kernel
theorem s216_1 {L : Nat} {xs : Nat → Int32} {d x : Nat} {M : qxM} {st : List Value} {ls : qxL} {t : Nat} (hk : qx_kd t = 18) : Rs L xs (d) 216 1 ls (.ref t :: st) M x = Rs L xs (d) 216 4 ls (.ref (t + 1) :: st) M x := Rs_when (qx_kd_obj (k := 8) (by decide) hk) c216_1 rfl
theorem c216_4 : qx_code 216 4 = some (4, .bipush 7, 6, 0, 0, 0) := by decide +kernel
theorem s216_4 {L : Nat} {xs : Nat → Int32} {d x : Nat} {M : qxM} {st : List Value} {ls : qxL} : Rs L xs (d) 216 4 ls st M x = Rs L xs (d) 216 6 ls (.int (nI 7) :: st) M x := Rs_next c216_4 rfl
theorem c216_6 : qx_code 216 6 = some (6, .iload_n 1, 7, 0, 0, 0) := by decide +kernel
theorem s216_6 {L : Nat} {xs : Nat → Int32} {d x : Nat} {M : qxM} {st : List Value} {a0 a2 : Option Value} {z : Int32} : Rs L xs (d) 216 6 [a0, some (.int z), a2] st M x = Rs L xs (d) 216 7 [a0, some (.int z), a2] (.int z :: st) M x := Rs_next c216_6 rfl
theorem c216_7 : qx_code 216 7 = some (7, .iadd, 8, 0, 0, 0) := by decide +kernel
theorem s216_7 {L : Nat} {xs : Nat → Int32} {d x : Nat} {M : qxM} {st : List Value} {ls : qxL} {z y : Int32} : Rs L xs (d) 216 7 ls (.int y :: .int z :: st) M x = Rs L xs (d) 216 8 ls (.int (z + y) :: st) M x := Rs_next c216_7 rfl
theorem c216_8 : qx_code 216 8 = some (8, .iaload, 9, 0, 0, 0) := by decide +kernel
theorem s216_8 {L : Nat} {xs : Nat → Int32} {d x : Nat} {M : qxM} {st : List Value} {ls : qxL} {t : Nat} {j : Int32} (hk : qx_kd t = 0) (hj : qx_ib j (qx_ln t) = true) : Rs L xs (d) 216 8 ls (.int j :: .ref t :: st) M x = Rs L xs (d) 216 9 ls (.int (M.1 t j.toNatClampNeg) :: st) M x := by
  have h1 := qx_kd_row (k := 0) (by decide) hk
  exact Rs_unless (qx_ib_not hj) c216_8 (by unfold qx_act; dsimp only; rw [h1]; rfl)
theorem c216_9 : qx_code 216 9 = some (9, .iload_n 2, 10, 0, 0, 0) := by decide +kernel
theorem s216_9 {L : Nat} {xs : Nat → Int32} {d x : Nat} {M : qxM} {st : List Value} {a0 a1 : Option Value} {z : Int32} : Rs L xs (d) 216 9 [a0, a1, some (.int z)] st M x = Rs L xs (d) 216 10 [a0, a1, some (.int z)] (.int z :: st) M x := Rs_next c216_9 rfl
theorem c216_10 : qx_code 216 10 = some (10, .invokestatic 128, 13, 208, 2, 1729) := by decide +kernel
theorem s216_10 {L : Nat} {xs : Nat → Int32} {d x : Nat} {M : qxM} {st : List Value} {ls : qxL} {z0 : Int32} {z1 : Int32} (hs : st.length ≤ 4) : Rs L xs (d + 1) 216 10 ls (.int z1 :: .int z0 :: st) M x = (Rs L xs d 208 0 [some (.int z0), some (.int z1)] [] M 0).bind (qx_kn L xs (d + 1) 216 10 13 208 ls st x) := by
  have h1 : qx_act L xs (qx_rt 216) (10, .invokestatic 128, 13, 208, 2, 1729) ls (.int z1 :: .int z0 :: st) M = if 2 ≤ (.int z1 :: .int z0 :: st).length ∧ st.length ≤ 4 then some (.inr (.inr (.inr (208, [.int z0, .int z1], st)))) else none := rfl
  rw [if_pos ⟨by simp [List.length_cons]; try omega, hs⟩] at h1
  exact Rs_call c216_10 h1 rfl
theorem c216_13 : qx_code 216 13 = some (13, .ireturn, 14, 0, 0, 0) := by decide +kernel
theorem s216_13 {L : Nat} {xs : Nat → Int32} {d x : Nat} {M : qxM} {ls : qxL} {z : Int32} (h01 : z = 0 ∨ z = 1) : Rs L xs (d) 216 13 ls [.int z] M x = some (.inl (some (.int z)), M, x) := Rs_retw h01 c216_13 rfl
theorem c217_0 : qx_code 217 0 = some (0, .aload_n 0, 1, 0, 0, 0) := by decide +kernel
theorem s217_0 {L : Nat} {xs : Nat → Int32} {d x : Nat} {M : qxM} {st : List Value} {a1 a2 a3 : Option Value} {z : Nat} : Rs L xs (d) 217 0 [some (.ref z), a1, a2, a3] st M x = Rs L xs (d) 217 1 [some (.ref z), a1, a2, a3] (.ref z :: st) M x := Rs_next c217_0 rfl
theorem c217_1 : qx_code 217 1 = some (1, .getfield 9, 4, 8, 1, 1546) := by decide +kernel
theorem s217_1 {L : Nat} {xs : Nat → Int32} {d x : Nat} {M : qxM} {st : List Value} {ls : qxL} {t : Nat} (hk : qx_kd t = 18) : Rs L xs (d) 217 1 ls (.ref t :: st) M x = Rs L xs (d) 217 4 ls (.ref (t + 1) :: st) M x := Rs_when (qx_kd_obj (k := 8) (by decide) hk) c217_1 rfl
theorem c217_4 : qx_code 217 4 = some (4, .bipush 7, 6, 0, 0, 0) := by decide +kernel
theorem s217_4 {L : Nat} {xs : Nat → Int32} {d x : Nat} {M : qxM} {st : List Value} {ls : qxL} : Rs L xs (d) 217 4 ls st M x = Rs L xs (d) 217 6 ls (.int (nI 7) :: st) M x := Rs_next c217_4 rfl
theorem c217_6 : qx_code 217 6 = some (6, .iload_n 1, 7, 0, 0, 0) := by decide +kernel
theorem s217_6 {L : Nat} {xs : Nat → Int32} {d x : Nat} {M : qxM} {st : List Value} {a0 a2 a3 : Option Value} {z : Int32} : Rs L xs (d) 217 6 [a0, some (.int z), a2, a3] st M x = Rs L xs (d) 217 7 [a0, some (.int z), a2, a3] (.int z :: st) M x := Rs_next c217_6 rfl
theorem c217_7 : qx_code 217 7 = some (7, .iadd, 8, 0, 0, 0) := by decide +kernel
theorem s217_7 {L : Nat} {xs : Nat → Int32} {d x : Nat} {M : qxM} {st : List Value} {ls : qxL} {z y : Int32} : Rs L xs (d) 217 7 ls (.int y :: .int z :: st) M x = Rs L xs (d) 217 8 ls (.int (z + y) :: st) M x := Rs_next c217_7 rfl
theorem c217_8 : qx_code 217 8 = some (8, .iload_n 3, 9, 0, 0, 0) := by decide +kernel
theorem s217_8 {L : Nat} {xs : Nat → Int32} {d x : Nat} {M : qxM} {st : List Value} {a0 a1 a2 : Option Value} {z : Int32} : Rs L xs (d) 217 8 [a0, a1, a2, some (.int z)] st M x = Rs L xs (d) 217 9 [a0, a1, a2, some (.int z)] (.int z :: st) M x := Rs_next c217_8 rfl
theorem c217_9 : qx_code 217 9 = some (9, .ifCond .eq 19, 12, 28, 0, 0) := by decide +kernel
theorem s217_9 {L : Nat} {xs : Nat → Int32} {d x : Nat} {M : qxM} {st : List Value} {ls : qxL} {z : Int32} : Rs L xs (d) 217 9 ls (.int z :: st) M x = if z = 0 then Rs L xs (d) 217 28 ls st M x else Rs L xs (d) 217 12 ls st M x := Rs_ite c217_9 rfl
theorem c217_12 : qx_code 217 12 = some (12, .aload_n 0, 13, 0, 0, 0) := by decide +kernel
theorem s217_12 {L : Nat} {xs : Nat → Int32} {d x : Nat} {M : qxM} {st : List Value} {a1 a2 a3 : Option Value} {z : Nat} : Rs L xs (d) 217 12 [some (.ref z), a1, a2, a3] st M x = Rs L xs (d) 217 13 [some (.ref z), a1, a2, a3] (.ref z :: st) M x := Rs_next c217_12 rfl
theorem c217_13 : qx_code 217 13 = some (13, .getfield 9, 16, 8, 1, 1546) := by decide +kernel
theorem s217_13 {L : Nat} {xs : Nat → Int32} {d x : Nat} {M : qxM} {st : List Value} {ls : qxL} {t : Nat} (hk : qx_kd t = 18) : Rs L xs (d) 217 13 ls (.ref t :: st) M x = Rs L xs (d) 217 16 ls (.ref (t + 1) :: st) M x := Rs_when (qx_kd_obj (k := 8) (by decide) hk) c217_13 rfl
theorem c217_16 : qx_code 217 16 = some (16, .bipush 7, 18, 0, 0, 0) := by decide +kernel
theorem s217_16 {L : Nat} {xs : Nat → Int32} {d x : Nat} {M : qxM} {st : List Value} {ls : qxL} : Rs L xs (d) 217 16 ls st M x = Rs L xs (d) 217 18 ls (.int (nI 7) :: st) M x := Rs_next c217_16 rfl
theorem c217_18 : qx_code 217 18 = some (18, .iload_n 1, 19, 0, 0, 0) := by decide +kernel
theorem s217_18 {L : Nat} {xs : Nat → Int32} {d x : Nat} {M : qxM} {st : List Value} {a0 a2 a3 : Option Value} {z : Int32} : Rs L xs (d) 217 18 [a0, some (.int z), a2, a3] st M x = Rs L xs (d) 217 19 [a0, some (.int z), a2, a3] (.int z :: st) M x := Rs_next c217_18 rfl
theorem c217_19 : qx_code 217 19 = some (19, .iadd, 20, 0, 0, 0) := by decide +kernel
theorem s217_19 {L : Nat} {xs : Nat → Int32} {d x : Nat} {M : qxM} {st : List Value} {ls : qxL} {z y : Int32} : Rs L xs (d) 217 19 ls (.int y :: .int z :: st) M x = Rs L xs (d) 217 20 ls (.int (z + y) :: st) M x := Rs_next c217_19 rfl
theorem c217_20 : qx_code 217 20 = some (20, .iaload, 21, 0, 0, 0) := by decide +kernel
theorem s217_20 {L : Nat} {xs : Nat → Int32} {d x : Nat} {M : qxM} {st : List Value} {ls : qxL} {t : Nat} {j : Int32} (hk : qx_kd t = 0) (hj : qx_ib j (qx_ln t) = true) : Rs L xs (d) 217 20 ls (.int j :: .ref t :: st) M x = Rs L xs (d) 217 21 ls (.int (M.1 t j.toNatClampNeg) :: st) M x := by
  have h1 := qx_kd_row (k := 0) (by decide) hk
  exact Rs_unless (qx_ib_not hj) c217_20 (by unfold qx_act; dsimp only; rw [h1]; rfl)
theorem c217_21 : qx_code 217 21 = some (21, .iconst 1, 22, 0, 0, 0) := by decide +kernel
theorem s217_21 {L : Nat} {xs : Nat → Int32} {d x : Nat} {M : qxM} {st : List Value} {ls : qxL} : Rs L xs (d) 217 21 ls st M x = Rs L xs (d) 217 22 ls (.int (nI 1) :: st) M x := Rs_next c217_21 rfl
theorem c217_22 : qx_code 217 22 = some (22, .iload_n 2, 23, 0, 0, 0) := by decide +kernel
theorem s217_22 {L : Nat} {xs : Nat → Int32} {d x : Nat} {M : qxM} {st : List Value} {a0 a1 a3 : Option Value} {z : Int32} : Rs L xs (d) 217 22 [a0, a1, some (.int z), a3] st M x = Rs L xs (d) 217 23 [a0, a1, some (.int z), a3] (.int z :: st) M x := Rs_next c217_22 rfl
theorem c217_23 : qx_code 217 23 = some (23, .ishl, 24, 0, 0, 0) := by decide +kernel
theorem s217_23 {L : Nat} {xs : Nat → Int32} {d x : Nat} {M : qxM} {st : List Value} {ls : qxL} {z y : Int32} : Rs L xs (d) 217 23 ls (.int y :: .int z :: st) M x = Rs L xs (d) 217 24 ls (.int (z <<< (y &&& 31)) :: st) M x := Rs_next c217_23 rfl
theorem c217_24 : qx_code 217 24 = some (24, .ior, 25, 0, 0, 0) := by decide +kernel
theorem s217_24 {L : Nat} {xs : Nat → Int32} {d x : Nat} {M : qxM} {st : List Value} {ls : qxL} {z y : Int32} : Rs L xs (d) 217 24 ls (.int y :: .int z :: st) M x = Rs L xs (d) 217 25 ls (.int (z ||| y) :: st) M x := Rs_next c217_24 rfl
theorem c217_25 : qx_code 217 25 = some (25, .goto 18, 28, 43, 0, 0) := by decide +kernel
theorem s217_25 {L : Nat} {xs : Nat → Int32} {d x : Nat} {M : qxM} {st : List Value} {ls : qxL} : Rs L xs (d) 217 25 ls st M x = Rs L xs (d) 217 43 ls st M x := Rs_next c217_25 rfl
theorem c217_28 : qx_code 217 28 = some (28, .aload_n 0, 29, 0, 0, 0) := by decide +kernel
theorem s217_28 {L : Nat} {xs : Nat → Int32} {d x : Nat} {M : qxM} {st : List Value} {a1 a2 a3 : Option Value} {z : Nat} : Rs L xs (d) 217 28 [some (.ref z), a1, a2, a3] st M x = Rs L xs (d) 217 29 [some (.ref z), a1, a2, a3] (.ref z :: st) M x := Rs_next c217_28 rfl
theorem c217_29 : qx_code 217 29 = some (29, .getfield 9, 32, 8, 1, 1546) := by decide +kernel
theorem s217_29 {L : Nat} {xs : Nat → Int32} {d x : Nat} {M : qxM} {st : List Value} {ls : qxL} {t : Nat} (hk : qx_kd t = 18) : Rs L xs (d) 217 29 ls (.ref t :: st) M x = Rs L xs (d) 217 32 ls (.ref (t + 1) :: st) M x := Rs_when (qx_kd_obj (k := 8) (by decide) hk) c217_29 rfl
theorem c217_32 : qx_code 217 32 = some (32, .bipush 7, 34, 0, 0, 0) := by decide +kernel
theorem s217_32 {L : Nat} {xs : Nat → Int32} {d x : Nat} {M : qxM} {st : List Value} {ls : qxL} : Rs L xs (d) 217 32 ls st M x = Rs L xs (d) 217 34 ls (.int (nI 7) :: st) M x := Rs_next c217_32 rfl
theorem c217_34 : qx_code 217 34 = some (34, .iload_n 1, 35, 0, 0, 0) := by decide +kernel
theorem s217_34 {L : Nat} {xs : Nat → Int32} {d x : Nat} {M : qxM} {st : List Value} {a0 a2 a3 : Option Value} {z : Int32} : Rs L xs (d) 217 34 [a0, some (.int z), a2, a3] st M x = Rs L xs (d) 217 35 [a0, some (.int z), a2, a3] (.int z :: st) M x := Rs_next c217_34 rfl
theorem c217_35 : qx_code 217 35 = some (35, .iadd, 36, 0, 0, 0) := by decide +kernel
theorem s217_35 {L : Nat} {xs : Nat → Int32} {d x : Nat} {M : qxM} {st : List Value} {ls : qxL} {z y : Int32} : Rs L xs (d) 217 35 ls (.int y :: .int z :: st) M x = Rs L xs (d) 217 36 ls (.int (z + y) :: st) M x := Rs_next c217_35 rfl
theorem c217_36 : qx_code 217 36 = some (36, .iaload, 37, 0, 0, 0) := by decide +kernel
theorem s217_36 {L : Nat} {xs : Nat → Int32} {d x : Nat} {M : qxM} {st : List Value} {ls : qxL} {t : Nat} {j : Int32} (hk : qx_kd t = 0) (hj : qx_ib j (qx_ln t) = true) : Rs L xs (d) 217 36 ls (.int j :: .ref t :: st) M x = Rs L xs (d) 217 37 ls (.int (M.1 t j.toNatClampNeg) :: st) M x := by
  have h1 := qx_kd_row (k := 0) (by decide) hk
  exact Rs_unless (qx_ib_not hj) c217_36 (by unfold qx_act; dsimp only; rw [h1]; rfl)
theorem c217_37 : qx_code 217 37 = some (37, .iconst 1, 38, 0, 0, 0) := by decide +kernel
theorem s217_37 {L : Nat} {xs : Nat → Int32} {d x : Nat} {M : qxM} {st : List Value} {ls : qxL} : Rs L xs (d) 217 37 ls st M x = Rs L xs (d) 217 38 ls (.int (nI 1) :: st) M x := Rs_next c217_37 rfl
theorem c217_38 : qx_code 217 38 = some (38, .iload_n 2, 39, 0, 0, 0) := by decide +kernel
theorem s217_38 {L : Nat} {xs : Nat → Int32} {d x : Nat} {M : qxM} {st : List Value} {a0 a1 a3 : Option Value} {z : Int32} : Rs L xs (d) 217 38 [a0, a1, some (.int z), a3] st M x = Rs L xs (d) 217 39 [a0, a1, some (.int z), a3] (.int z :: st) M x := Rs_next c217_38 rfl
theorem c217_39 : qx_code 217 39 = some (39, .ishl, 40, 0, 0, 0) := by decide +kernel
theorem s217_39 {L : Nat} {xs : Nat → Int32} {d x : Nat} {M : qxM} {st : List Value} {ls : qxL} {z y : Int32} : Rs L xs (d) 217 39 ls (.int y :: .int z :: st) M x = Rs L xs (d) 217 40 ls (.int (z <<< (y &&& 31)) :: st) M x := Rs_next c217_39 rfl
theorem c217_40 : qx_code 217 40 = some (40, .iconst (-1), 41, 0, 0, 0) := by decide +kernel
theorem s217_40 {L : Nat} {xs : Nat → Int32} {d x : Nat} {M : qxM} {st : List Value} {ls : qxL} : Rs L xs (d) 217 40 ls st M x = Rs L xs (d) 217 41 ls (.int (-1) :: st) M x := Rs_next c217_40 rfl
theorem c217_41 : qx_code 217 41 = some (41, .ixor, 42, 0, 0, 0) := by decide +kernel
theorem s217_41 {L : Nat} {xs : Nat → Int32} {d x : Nat} {M : qxM} {st : List Value} {ls : qxL} {z y : Int32} : Rs L xs (d) 217 41 ls (.int y :: .int z :: st) M x = Rs L xs (d) 217 42 ls (.int (z ^^^ y) :: st) M x := Rs_next c217_41 rfl
theorem c217_42 : qx_code 217 42 = some (42, .iand, 43, 0, 0, 0) := by decide +kernel
theorem s217_42 {L : Nat} {xs : Nat → Int32} {d x : Nat} {M : qxM} {st : List Value} {ls : qxL} {z y : Int32} : Rs L xs (d) 217 42 ls (.int y :: .int z :: st) M x = Rs L xs (d) 217 43 ls (.int (z &&& y) :: st) M x := Rs_next c217_42 rfl
theorem c217_43 : qx_code 217 43 = some (43, .iastore, 44, 0, 0, 0) := by decide +kernel
theorem s217_43 {L : Nat} {xs : Nat → Int32} {d x : Nat} {M : qxM} {st : List Value} {ls : qxL} {t : Nat} {j : Int32} {z : Int32} (hk : qx_kd t = 0) (hj : qx_ib j (qx_ln t) = true) : Rs L xs (d) 217 43 ls (.int z :: .int j :: .ref t :: st) M x = Rs L xs (d) 217 44 ls st (qx_up M t j.toNatClampNeg z) x := by
  have h1 := qx_kd_row (k := 0) (by decide) hk
  exact Rs_unless (qx_ib_not hj) c217_43 (by unfold qx_act; dsimp only; rw [h1]; rfl)
theorem c217_44 : qx_code 217 44 = some (44, .aload_n 0, 45, 0, 0, 0) := by decide +kernel
theorem s217_44 {L : Nat} {xs : Nat → Int32} {d x : Nat} {M : qxM} {st : List Value} {a1 a2 a3 : Option Value} {z : Nat} : Rs L xs (d) 217 44 [some (.ref z), a1, a2, a3] st M x = Rs L xs (d) 217 45 [some (.ref z), a1, a2, a3] (.ref z :: st) M x := Rs_next c217_44 rfl
theorem c217_45 : qx_code 217 45 = some (45, .getfield 9, 48, 8, 1, 1546) := by decide +kernel
theorem s217_45 {L : Nat} {xs : Nat → Int32} {d x : Nat} {M : qxM} {st : List Value} {ls : qxL} {t : Nat} (hk : qx_kd t = 18) : Rs L xs (d) 217 45 ls (.ref t :: st) M x = Rs L xs (d) 217 48 ls (.ref (t + 1) :: st) M x := Rs_when (qx_kd_obj (k := 8) (by decide) hk) c217_45 rfl
theorem c217_48 : qx_code 217 48 = some (48, .bipush 7, 50, 0, 0, 0) := by decide +kernel
theorem s217_48 {L : Nat} {xs : Nat → Int32} {d x : Nat} {M : qxM} {st : List Value} {ls : qxL} : Rs L xs (d) 217 48 ls st M x = Rs L xs (d) 217 50 ls (.int (nI 7) :: st) M x := Rs_next c217_48 rfl
theorem c217_50 : qx_code 217 50 = some (50, .iload_n 2, 51, 0, 0, 0) := by decide +kernel
theorem s217_50 {L : Nat} {xs : Nat → Int32} {d x : Nat} {M : qxM} {st : List Value} {a0 a1 a3 : Option Value} {z : Int32} : Rs L xs (d) 217 50 [a0, a1, some (.int z), a3] st M x = Rs L xs (d) 217 51 [a0, a1, some (.int z), a3] (.int z :: st) M x := Rs_next c217_50 rfl
theorem c217_51 : qx_code 217 51 = some (51, .iadd, 52, 0, 0, 0) := by decide +kernel
theorem s217_51 {L : Nat} {xs : Nat → Int32} {d x : Nat} {M : qxM} {st : List Value} {ls : qxL} {z y : Int32} : Rs L xs (d) 217 51 ls (.int y :: .int z :: st) M x = Rs L xs (d) 217 52 ls (.int (z + y) :: st) M x := Rs_next c217_51 rfl
theorem c217_52 : qx_code 217 52 = some (52, .iload_n 3, 53, 0, 0, 0) := by decide +kernel
theorem s217_52 {L : Nat} {xs : Nat → Int32} {d x : Nat} {M : qxM} {st : List Value} {a0 a1 a2 : Option Value} {z : Int32} : Rs L xs (d) 217 52 [a0, a1, a2, some (.int z)] st M x = Rs L xs (d) 217 53 [a0, a1, a2, some (.int z)] (.int z :: st) M x := Rs_next c217_52 rfl
theorem c217_53 : qx_code 217 53 = some (53, .ifCond .eq 19, 56, 72, 0, 0) := by decide +kernel
theorem s217_53 {L : Nat} {xs : Nat → Int32} {d x : Nat} {M : qxM} {st : List Value} {ls : qxL} {z : Int32} : Rs L xs (d) 217 53 ls (.int z :: st) M x = if z = 0 then Rs L xs (d) 217 72 ls st M x else Rs L xs (d) 217 56 ls st M x := Rs_ite c217_53 rfl
theorem c217_56 : qx_code 217 56 = some (56, .aload_n 0, 57, 0, 0, 0) := by decide +kernel
theorem s217_56 {L : Nat} {xs : Nat → Int32} {d x : Nat} {M : qxM} {st : List Value} {a1 a2 a3 : Option Value} {z : Nat} : Rs L xs (d) 217 56 [some (.ref z), a1, a2, a3] st M x = Rs L xs (d) 217 57 [some (.ref z), a1, a2, a3] (.ref z :: st) M x := Rs_next c217_56 rfl
theorem c217_57 : qx_code 217 57 = some (57, .getfield 9, 60, 8, 1, 1546) := by decide +kernel
theorem s217_57 {L : Nat} {xs : Nat → Int32} {d x : Nat} {M : qxM} {st : List Value} {ls : qxL} {t : Nat} (hk : qx_kd t = 18) : Rs L xs (d) 217 57 ls (.ref t :: st) M x = Rs L xs (d) 217 60 ls (.ref (t + 1) :: st) M x := Rs_when (qx_kd_obj (k := 8) (by decide) hk) c217_57 rfl
theorem c217_60 : qx_code 217 60 = some (60, .bipush 7, 62, 0, 0, 0) := by decide +kernel
theorem s217_60 {L : Nat} {xs : Nat → Int32} {d x : Nat} {M : qxM} {st : List Value} {ls : qxL} : Rs L xs (d) 217 60 ls st M x = Rs L xs (d) 217 62 ls (.int (nI 7) :: st) M x := Rs_next c217_60 rfl
theorem c217_62 : qx_code 217 62 = some (62, .iload_n 2, 63, 0, 0, 0) := by decide +kernel
theorem s217_62 {L : Nat} {xs : Nat → Int32} {d x : Nat} {M : qxM} {st : List Value} {a0 a1 a3 : Option Value} {z : Int32} : Rs L xs (d) 217 62 [a0, a1, some (.int z), a3] st M x = Rs L xs (d) 217 63 [a0, a1, some (.int z), a3] (.int z :: st) M x := Rs_next c217_62 rfl
theorem c217_63 : qx_code 217 63 = some (63, .iadd, 64, 0, 0, 0) := by decide +kernel
theorem s217_63 {L : Nat} {xs : Nat → Int32} {d x : Nat} {M : qxM} {st : List Value} {ls : qxL} {z y : Int32} : Rs L xs (d) 217 63 ls (.int y :: .int z :: st) M x = Rs L xs (d) 217 64 ls (.int (z + y) :: st) M x := Rs_next c217_63 rfl
theorem c217_64 : qx_code 217 64 = some (64, .iaload, 65, 0, 0, 0) := by decide +kernel
theorem s217_64 {L : Nat} {xs : Nat → Int32} {d x : Nat} {M : qxM} {st : List Value} {ls : qxL} {t : Nat} {j : Int32} (hk : qx_kd t = 0) (hj : qx_ib j (qx_ln t) = true) : Rs L xs (d) 217 64 ls (.int j :: .ref t :: st) M x = Rs L xs (d) 217 65 ls (.int (M.1 t j.toNatClampNeg) :: st) M x := by
  have h1 := qx_kd_row (k := 0) (by decide) hk
  exact Rs_unless (qx_ib_not hj) c217_64 (by unfold qx_act; dsimp only; rw [h1]; rfl)
theorem c217_65 : qx_code 217 65 = some (65, .iconst 1, 66, 0, 0, 0) := by decide +kernel
theorem s217_65 {L : Nat} {xs : Nat → Int32} {d x : Nat} {M : qxM} {st : List Value} {ls : qxL} : Rs L xs (d) 217 65 ls st M x = Rs L xs (d) 217 66 ls (.int (nI 1) :: st) M x := Rs_next c217_65 rfl
theorem c217_66 : qx_code 217 66 = some (66, .iload_n 1, 67, 0, 0, 0) := by decide +kernel
theorem s217_66 {L : Nat} {xs : Nat → Int32} {d x : Nat} {M : qxM} {st : List Value} {a0 a2 a3 : Option Value} {z : Int32} : Rs L xs (d) 217 66 [a0, some (.int z), a2, a3] st M x = Rs L xs (d) 217 67 [a0, some (.int z), a2, a3] (.int z :: st) M x := Rs_next c217_66 rfl
theorem c217_67 : qx_code 217 67 = some (67, .ishl, 68, 0, 0, 0) := by decide +kernel
theorem s217_67 {L : Nat} {xs : Nat → Int32} {d x : Nat} {M : qxM} {st : List Value} {ls : qxL} {z y : Int32} : Rs L xs (d) 217 67 ls (.int y :: .int z :: st) M x = Rs L xs (d) 217 68 ls (.int (z <<< (y &&& 31)) :: st) M x := Rs_next c217_67 rfl
theorem c217_68 : qx_code 217 68 = some (68, .ior, 69, 0, 0, 0) := by decide +kernel
theorem s217_68 {L : Nat} {xs : Nat → Int32} {d x : Nat} {M : qxM} {st : List Value} {ls : qxL} {z y : Int32} : Rs L xs (d) 217 68 ls (.int y :: .int z :: st) M x = Rs L xs (d) 217 69 ls (.int (z ||| y) :: st) M x := Rs_next c217_68 rfl
theorem c217_69 : qx_code 217 69 = some (69, .goto 18, 72, 87, 0, 0) := by decide +kernel
theorem s217_69 {L : Nat} {xs : Nat → Int32} {d x : Nat} {M : qxM} {st : List Value} {ls : qxL} : Rs L xs (d) 217 69 ls st M x = Rs L xs (d) 217 87 ls st M x := Rs_next c217_69 rfl
theorem c217_72 : qx_code 217 72 = some (72, .aload_n 0, 73, 0, 0, 0) := by decide +kernel
theorem s217_72 {L : Nat} {xs : Nat → Int32} {d x : Nat} {M : qxM} {st : List Value} {a1 a2 a3 : Option Value} {z : Nat} : Rs L xs (d) 217 72 [some (.ref z), a1, a2, a3] st M x = Rs L xs (d) 217 73 [some (.ref z), a1, a2, a3] (.ref z :: st) M x := Rs_next c217_72 rfl
theorem c217_73 : qx_code 217 73 = some (73, .getfield 9, 76, 8, 1, 1546) := by decide +kernel
theorem s217_73 {L : Nat} {xs : Nat → Int32} {d x : Nat} {M : qxM} {st : List Value} {ls : qxL} {t : Nat} (hk : qx_kd t = 18) : Rs L xs (d) 217 73 ls (.ref t :: st) M x = Rs L xs (d) 217 76 ls (.ref (t + 1) :: st) M x := Rs_when (qx_kd_obj (k := 8) (by decide) hk) c217_73 rfl
theorem c217_76 : qx_code 217 76 = some (76, .bipush 7, 78, 0, 0, 0) := by decide +kernel
theorem s217_76 {L : Nat} {xs : Nat → Int32} {d x : Nat} {M : qxM} {st : List Value} {ls : qxL} : Rs L xs (d) 217 76 ls st M x = Rs L xs (d) 217 78 ls (.int (nI 7) :: st) M x := Rs_next c217_76 rfl
theorem c217_78 : qx_code 217 78 = some (78, .iload_n 2, 79, 0, 0, 0) := by decide +kernel
theorem s217_78 {L : Nat} {xs : Nat → Int32} {d x : Nat} {M : qxM} {st : List Value} {a0 a1 a3 : Option Value} {z : Int32} : Rs L xs (d) 217 78 [a0, a1, some (.int z), a3] st M x = Rs L xs (d) 217 79 [a0, a1, some (.int z), a3] (.int z :: st) M x := Rs_next c217_78 rfl
theorem c217_79 : qx_code 217 79 = some (79, .iadd, 80, 0, 0, 0) := by decide +kernel
theorem s217_79 {L : Nat} {xs : Nat → Int32} {d x : Nat} {M : qxM} {st : List Value} {ls : qxL} {z y : Int32} : Rs L xs (d) 217 79 ls (.int y :: .int z :: st) M x = Rs L xs (d) 217 80 ls (.int (z + y) :: st) M x := Rs_next c217_79 rfl
theorem c217_80 : qx_code 217 80 = some (80, .iaload, 81, 0, 0, 0) := by decide +kernel
theorem s217_80 {L : Nat} {xs : Nat → Int32} {d x : Nat} {M : qxM} {st : List Value} {ls : qxL} {t : Nat} {j : Int32} (hk : qx_kd t = 0) (hj : qx_ib j (qx_ln t) = true) : Rs L xs (d) 217 80 ls (.int j :: .ref t :: st) M x = Rs L xs (d) 217 81 ls (.int (M.1 t j.toNatClampNeg) :: st) M x := by
  have h1 := qx_kd_row (k := 0) (by decide) hk
  exact Rs_unless (qx_ib_not hj) c217_80 (by unfold qx_act; dsimp only; rw [h1]; rfl)
theorem c217_81 : qx_code 217 81 = some (81, .iconst 1, 82, 0, 0, 0) := by decide +kernel
theorem s217_81 {L : Nat} {xs : Nat → Int32} {d x : Nat} {M : qxM} {st : List Value} {ls : qxL} : Rs L xs (d) 217 81 ls st M x = Rs L xs (d) 217 82 ls (.int (nI 1) :: st) M x := Rs_next c217_81 rfl
theorem c217_82 : qx_code 217 82 = some (82, .iload_n 1, 83, 0, 0, 0) := by decide +kernel
theorem s217_82 {L : Nat} {xs : Nat → Int32} {d x : Nat} {M : qxM} {st : List Value} {a0 a2 a3 : Option Value} {z : Int32} : Rs L xs (d) 217 82 [a0, some (.int z), a2, a3] st M x = Rs L xs (d) 217 83 [a0, some (.int z), a2, a3] (.int z :: st) M x := Rs_next c217_82 rfl
theorem c217_83 : qx_code 217 83 = some (83, .ishl, 84, 0, 0, 0) := by decide +kernel
theorem s217_83 {L : Nat} {xs : Nat → Int32} {d x : Nat} {M : qxM} {st : List Value} {ls : qxL} {z y : Int32} : Rs L xs (d) 217 83 ls (.int y :: .int z :: st) M x = Rs L xs (d) 217 84 ls (.int (z <<< (y &&& 31)) :: st) M x := Rs_next c217_83 rfl
theorem c217_84 : qx_code 217 84 = some (84, .iconst (-1), 85, 0, 0, 0) := by decide +kernel
theorem s217_84 {L : Nat} {xs : Nat → Int32} {d x : Nat} {M : qxM} {st : List Value} {ls : qxL} : Rs L xs (d) 217 84 ls st M x = Rs L xs (d) 217 85 ls (.int (-1) :: st) M x := Rs_next c217_84 rfl
theorem c217_85 : qx_code 217 85 = some (85, .ixor, 86, 0, 0, 0) := by decide +kernel
theorem s217_85 {L : Nat} {xs : Nat → Int32} {d x : Nat} {M : qxM} {st : List Value} {ls : qxL} {z y : Int32} : Rs L xs (d) 217 85 ls (.int y :: .int z :: st) M x = Rs L xs (d) 217 86 ls (.int (z ^^^ y) :: st) M x := Rs_next c217_85 rfl
theorem c217_86 : qx_code 217 86 = some (86, .iand, 87, 0, 0, 0) := by decide +kernel
theorem s217_86 {L : Nat} {xs : Nat → Int32} {d x : Nat} {M : qxM} {st : List Value} {ls : qxL} {z y : Int32} : Rs L xs (d) 217 86 ls (.int y :: .int z :: st) M x = Rs L xs (d) 217 87 ls (.int (z &&& y) :: st) M x := Rs_next c217_86 rfl
theorem c217_87 : qx_code 217 87 = some (87, .iastore, 88, 0, 0, 0) := by decide +kernel
theorem s217_87 {L : Nat} {xs : Nat → Int32} {d x : Nat} {M : qxM} {st : List Value} {ls : qxL} {t : Nat} {j : Int32} {z : Int32} (hk : qx_kd t = 0) (hj : qx_ib j (qx_ln t) = true) : Rs L xs (d) 217 87 ls (.int z :: .int j :: .ref t :: st) M x = Rs L xs (d) 217 88 ls st (qx_up M t j.toNatClampNeg z) x := by
  have h1 := qx_kd_row (k := 0) (by decide) hk
  exact Rs_unless (qx_ib_not hj) c217_87 (by unfold qx_act; dsimp only; rw [h1]; rfl)
theorem c217_88 : qx_code 217 88 = some (88, .return_, 89, 0, 0, 0) := by decide +kernel
theorem s217_88 {L : Nat} {xs : Nat → Int32} {d x : Nat} {M : qxM} {ls : qxL} : Rs L xs (d) 217 88 ls [] M x = some (.inl none, M, x) := Rs_ret c217_88 rfl
theorem c218_0 : qx_code 218 0 = some (0, .aload_n 0, 1, 0, 0, 0) := by decide +kernel
theorem s218_0 {L : Nat} {xs : Nat → Int32} {d x : Nat} {M : qxM} {st : List Value} {a1 a2 : Option Value} {z : Nat} : Rs L xs (d) 218 0 [some (.ref z), a1, a2] st M x = Rs L xs (d) 218 1 [some (.ref z), a1, a2] (.ref z :: st) M x := Rs_next c218_0 rfl
theorem c218_1 : qx_code 218 1 = some (1, .getfield 9, 4, 8, 1, 1546) := by decide +kernel
theorem s218_1 {L : Nat} {xs : Nat → Int32} {d x : Nat} {M : qxM} {st : List Value} {ls : qxL} {t : Nat} (hk : qx_kd t = 18) : Rs L xs (d) 218 1 ls (.ref t :: st) M x = Rs L xs (d) 218 4 ls (.ref (t + 1) :: st) M x := Rs_when (qx_kd_obj (k := 8) (by decide) hk) c218_1 rfl
theorem c218_4 : qx_code 218 4 = some (4, .iconst 1, 5, 0, 0, 0) := by decide +kernel
theorem s218_4 {L : Nat} {xs : Nat → Int32} {d x : Nat} {M : qxM} {st : List Value} {ls : qxL} : Rs L xs (d) 218 4 ls st M x = Rs L xs (d) 218 5 ls (.int (nI 1) :: st) M x := Rs_next c218_4 rfl
theorem c218_5 : qx_code 218 5 = some (5, .iaload, 6, 0, 0, 0) := by decide +kernel
theorem s218_5 {L : Nat} {xs : Nat → Int32} {d x : Nat} {M : qxM} {st : List Value} {ls : qxL} {t : Nat} {j : Int32} (hk : qx_kd t = 0) (hj : qx_ib j (qx_ln t) = true) : Rs L xs (d) 218 5 ls (.int j :: .ref t :: st) M x = Rs L xs (d) 218 6 ls (.int (M.1 t j.toNatClampNeg) :: st) M x := by
  have h1 := qx_kd_row (k := 0) (by decide) hk
  exact Rs_unless (qx_ib_not hj) c218_5 (by unfold qx_act; dsimp only; rw [h1]; rfl)
theorem c218_6 : qx_code 218 6 = some (6, .ifCond .eq 49, 9, 55, 0, 0) := by decide +kernel
theorem s218_6 {L : Nat} {xs : Nat → Int32} {d x : Nat} {M : qxM} {st : List Value} {ls : qxL} {z : Int32} : Rs L xs (d) 218 6 ls (.int z :: st) M x = if z = 0 then Rs L xs (d) 218 55 ls st M x else Rs L xs (d) 218 9 ls st M x := Rs_ite c218_6 rfl
theorem c218_9 : qx_code 218 9 = some (9, .aload_n 0, 10, 0, 0, 0) := by decide +kernel
theorem s218_9 {L : Nat} {xs : Nat → Int32} {d x : Nat} {M : qxM} {st : List Value} {a1 a2 : Option Value} {z : Nat} : Rs L xs (d) 218 9 [some (.ref z), a1, a2] st M x = Rs L xs (d) 218 10 [some (.ref z), a1, a2] (.ref z :: st) M x := Rs_next c218_9 rfl
theorem c218_10 : qx_code 218 10 = some (10, .getfield 9, 13, 8, 1, 1546) := by decide +kernel
theorem s218_10 {L : Nat} {xs : Nat → Int32} {d x : Nat} {M : qxM} {st : List Value} {ls : qxL} {t : Nat} (hk : qx_kd t = 18) : Rs L xs (d) 218 10 ls (.ref t :: st) M x = Rs L xs (d) 218 13 ls (.ref (t + 1) :: st) M x := Rs_when (qx_kd_obj (k := 8) (by decide) hk) c218_10 rfl
theorem c218_13 : qx_code 218 13 = some (13, .iconst 2, 14, 0, 0, 0) := by decide +kernel
theorem s218_13 {L : Nat} {xs : Nat → Int32} {d x : Nat} {M : qxM} {st : List Value} {ls : qxL} : Rs L xs (d) 218 13 ls st M x = Rs L xs (d) 218 14 ls (.int (nI 2) :: st) M x := Rs_next c218_13 rfl
theorem c218_14 : qx_code 218 14 = some (14, .iaload, 15, 0, 0, 0) := by decide +kernel
theorem s218_14 {L : Nat} {xs : Nat → Int32} {d x : Nat} {M : qxM} {st : List Value} {ls : qxL} {t : Nat} {j : Int32} (hk : qx_kd t = 0) (hj : qx_ib j (qx_ln t) = true) : Rs L xs (d) 218 14 ls (.int j :: .ref t :: st) M x = Rs L xs (d) 218 15 ls (.int (M.1 t j.toNatClampNeg) :: st) M x := by
  have h1 := qx_kd_row (k := 0) (by decide) hk
  exact Rs_unless (qx_ib_not hj) c218_14 (by unfold qx_act; dsimp only; rw [h1]; rfl)
theorem c218_15 : qx_code 218 15 = some (15, .iload_n 1, 16, 0, 0, 0) := by decide +kernel
theorem s218_15 {L : Nat} {xs : Nat → Int32} {d x : Nat} {M : qxM} {st : List Value} {a0 a2 : Option Value} {z : Int32} : Rs L xs (d) 218 15 [a0, some (.int z), a2] st M x = Rs L xs (d) 218 16 [a0, some (.int z), a2] (.int z :: st) M x := Rs_next c218_15 rfl
theorem c218_16 : qx_code 218 16 = some (16, .invokestatic 128, 19, 208, 2, 1729) := by decide +kernel
theorem s218_16 {L : Nat} {xs : Nat → Int32} {d x : Nat} {M : qxM} {st : List Value} {ls : qxL} {z0 : Int32} {z1 : Int32} (hs : st.length ≤ 4) : Rs L xs (d + 1) 218 16 ls (.int z1 :: .int z0 :: st) M x = (Rs L xs d 208 0 [some (.int z0), some (.int z1)] [] M 0).bind (qx_kn L xs (d + 1) 218 16 19 208 ls st x) := by
  have h1 : qx_act L xs (qx_rt 218) (16, .invokestatic 128, 19, 208, 2, 1729) ls (.int z1 :: .int z0 :: st) M = if 2 ≤ (.int z1 :: .int z0 :: st).length ∧ st.length ≤ 4 then some (.inr (.inr (.inr (208, [.int z0, .int z1], st)))) else none := rfl
  rw [if_pos ⟨by simp [List.length_cons]; try omega, hs⟩] at h1
  exact Rs_call c218_16 h1 rfl
theorem c218_19 : qx_code 218 19 = some (19, .aload_n 0, 20, 0, 0, 0) := by decide +kernel
theorem s218_19 {L : Nat} {xs : Nat → Int32} {d x : Nat} {M : qxM} {st : List Value} {a1 a2 : Option Value} {z : Nat} : Rs L xs (d) 218 19 [some (.ref z), a1, a2] st M x = Rs L xs (d) 218 20 [some (.ref z), a1, a2] (.ref z :: st) M x := Rs_next c218_19 rfl
theorem c218_20 : qx_code 218 20 = some (20, .getfield 9, 23, 8, 1, 1546) := by decide +kernel
theorem s218_20 {L : Nat} {xs : Nat → Int32} {d x : Nat} {M : qxM} {st : List Value} {ls : qxL} {t : Nat} (hk : qx_kd t = 18) : Rs L xs (d) 218 20 ls (.ref t :: st) M x = Rs L xs (d) 218 23 ls (.ref (t + 1) :: st) M x := Rs_when (qx_kd_obj (k := 8) (by decide) hk) c218_20 rfl
theorem c218_23 : qx_code 218 23 = some (23, .iconst 2, 24, 0, 0, 0) := by decide +kernel
theorem s218_23 {L : Nat} {xs : Nat → Int32} {d x : Nat} {M : qxM} {st : List Value} {ls : qxL} : Rs L xs (d) 218 23 ls st M x = Rs L xs (d) 218 24 ls (.int (nI 2) :: st) M x := Rs_next c218_23 rfl
theorem c218_24 : qx_code 218 24 = some (24, .iaload, 25, 0, 0, 0) := by decide +kernel
theorem s218_24 {L : Nat} {xs : Nat → Int32} {d x : Nat} {M : qxM} {st : List Value} {ls : qxL} {t : Nat} {j : Int32} (hk : qx_kd t = 0) (hj : qx_ib j (qx_ln t) = true) : Rs L xs (d) 218 24 ls (.int j :: .ref t :: st) M x = Rs L xs (d) 218 25 ls (.int (M.1 t j.toNatClampNeg) :: st) M x := by
  have h1 := qx_kd_row (k := 0) (by decide) hk
  exact Rs_unless (qx_ib_not hj) c218_24 (by unfold qx_act; dsimp only; rw [h1]; rfl)
theorem c218_25 : qx_code 218 25 = some (25, .iload_n 2, 26, 0, 0, 0) := by decide +kernel
theorem s218_25 {L : Nat} {xs : Nat → Int32} {d x : Nat} {M : qxM} {st : List Value} {a0 a1 : Option Value} {z : Int32} : Rs L xs (d) 218 25 [a0, a1, some (.int z)] st M x = Rs L xs (d) 218 26 [a0, a1, some (.int z)] (.int z :: st) M x := Rs_next c218_25 rfl
theorem c218_26 : qx_code 218 26 = some (26, .invokestatic 128, 29, 208, 2, 1729) := by decide +kernel
theorem s218_26 {L : Nat} {xs : Nat → Int32} {d x : Nat} {M : qxM} {st : List Value} {ls : qxL} {z0 : Int32} {z1 : Int32} (hs : st.length ≤ 4) : Rs L xs (d + 1) 218 26 ls (.int z1 :: .int z0 :: st) M x = (Rs L xs d 208 0 [some (.int z0), some (.int z1)] [] M 0).bind (qx_kn L xs (d + 1) 218 26 29 208 ls st x) := by
  have h1 : qx_act L xs (qx_rt 218) (26, .invokestatic 128, 29, 208, 2, 1729) ls (.int z1 :: .int z0 :: st) M = if 2 ≤ (.int z1 :: .int z0 :: st).length ∧ st.length ≤ 4 then some (.inr (.inr (.inr (208, [.int z0, .int z1], st)))) else none := rfl
  rw [if_pos ⟨by simp [List.length_cons]; try omega, hs⟩] at h1
  exact Rs_call c218_26 h1 rfl
theorem c218_29 : qx_code 218 29 = some (29, .if_icmp .ne 7, 32, 36, 0, 0) := by decide +kernel
theorem s218_29 {L : Nat} {xs : Nat → Int32} {d x : Nat} {M : qxM} {st : List Value} {ls : qxL} {z y : Int32} : Rs L xs (d) 218 29 ls (.int y :: .int z :: st) M x = if z = y then Rs L xs (d) 218 32 ls st M x else Rs L xs (d) 218 36 ls st M x := Rs_ite c218_29 rfl
theorem c218_32 : qx_code 218 32 = some (32, .iconst 1, 33, 0, 0, 0) := by decide +kernel
theorem s218_32 {L : Nat} {xs : Nat → Int32} {d x : Nat} {M : qxM} {st : List Value} {ls : qxL} : Rs L xs (d) 218 32 ls st M x = Rs L xs (d) 218 33 ls (.int (nI 1) :: st) M x := Rs_next c218_32 rfl
theorem c218_33 : qx_code 218 33 = some (33, .goto 4, 36, 37, 0, 0) := by decide +kernel
theorem s218_33 {L : Nat} {xs : Nat → Int32} {d x : Nat} {M : qxM} {st : List Value} {ls : qxL} : Rs L xs (d) 218 33 ls st M x = Rs L xs (d) 218 37 ls st M x := Rs_next c218_33 rfl
theorem c218_36 : qx_code 218 36 = some (36, .iconst 0, 37, 0, 0, 0) := by decide +kernel
theorem s218_36 {L : Nat} {xs : Nat → Int32} {d x : Nat} {M : qxM} {st : List Value} {ls : qxL} : Rs L xs (d) 218 36 ls st M x = Rs L xs (d) 218 37 ls (.int (nI 0) :: st) M x := Rs_next c218_36 rfl
theorem c218_37 : qx_code 218 37 = some (37, .aload_n 0, 38, 0, 0, 0) := by decide +kernel
theorem s218_37 {L : Nat} {xs : Nat → Int32} {d x : Nat} {M : qxM} {st : List Value} {a1 a2 : Option Value} {z : Nat} : Rs L xs (d) 218 37 [some (.ref z), a1, a2] st M x = Rs L xs (d) 218 38 [some (.ref z), a1, a2] (.ref z :: st) M x := Rs_next c218_37 rfl
theorem c218_38 : qx_code 218 38 = some (38, .getfield 9, 41, 8, 1, 1546) := by decide +kernel
theorem s218_38 {L : Nat} {xs : Nat → Int32} {d x : Nat} {M : qxM} {st : List Value} {ls : qxL} {t : Nat} (hk : qx_kd t = 18) : Rs L xs (d) 218 38 ls (.ref t :: st) M x = Rs L xs (d) 218 41 ls (.ref (t + 1) :: st) M x := Rs_when (qx_kd_obj (k := 8) (by decide) hk) c218_38 rfl
theorem c218_41 : qx_code 218 41 = some (41, .iconst 1, 42, 0, 0, 0) := by decide +kernel
theorem s218_41 {L : Nat} {xs : Nat → Int32} {d x : Nat} {M : qxM} {st : List Value} {ls : qxL} : Rs L xs (d) 218 41 ls st M x = Rs L xs (d) 218 42 ls (.int (nI 1) :: st) M x := Rs_next c218_41 rfl
theorem c218_42 : qx_code 218 42 = some (42, .iaload, 43, 0, 0, 0) := by decide +kernel
theorem s218_42 {L : Nat} {xs : Nat → Int32} {d x : Nat} {M : qxM} {st : List Value} {ls : qxL} {t : Nat} {j : Int32} (hk : qx_kd t = 0) (hj : qx_ib j (qx_ln t) = true) : Rs L xs (d) 218 42 ls (.int j :: .ref t :: st) M x = Rs L xs (d) 218 43 ls (.int (M.1 t j.toNatClampNeg) :: st) M x := by
  have h1 := qx_kd_row (k := 0) (by decide) hk
  exact Rs_unless (qx_ib_not hj) c218_42 (by unfold qx_act; dsimp only; rw [h1]; rfl)
theorem c218_43 : qx_code 218 43 = some (43, .iconst 2, 44, 0, 0, 0) := by decide +kernel
theorem s218_43 {L : Nat} {xs : Nat → Int32} {d x : Nat} {M : qxM} {st : List Value} {ls : qxL} : Rs L xs (d) 218 43 ls st M x = Rs L xs (d) 218 44 ls (.int (nI 2) :: st) M x := Rs_next c218_43 rfl
theorem c218_44 : qx_code 218 44 = some (44, .if_icmp .ne 7, 47, 51, 0, 0) := by decide +kernel
theorem s218_44 {L : Nat} {xs : Nat → Int32} {d x : Nat} {M : qxM} {st : List Value} {ls : qxL} {z y : Int32} : Rs L xs (d) 218 44 ls (.int y :: .int z :: st) M x = if z = y then Rs L xs (d) 218 47 ls st M x else Rs L xs (d) 218 51 ls st M x := Rs_ite c218_44 rfl
theorem c218_47 : qx_code 218 47 = some (47, .iconst 1, 48, 0, 0, 0) := by decide +kernel
theorem s218_47 {L : Nat} {xs : Nat → Int32} {d x : Nat} {M : qxM} {st : List Value} {ls : qxL} : Rs L xs (d) 218 47 ls st M x = Rs L xs (d) 218 48 ls (.int (nI 1) :: st) M x := Rs_next c218_47 rfl
theorem c218_48 : qx_code 218 48 = some (48, .goto 4, 51, 52, 0, 0) := by decide +kernel
theorem s218_48 {L : Nat} {xs : Nat → Int32} {d x : Nat} {M : qxM} {st : List Value} {ls : qxL} : Rs L xs (d) 218 48 ls st M x = Rs L xs (d) 218 52 ls st M x := Rs_next c218_48 rfl
theorem c218_51 : qx_code 218 51 = some (51, .iconst 0, 52, 0, 0, 0) := by decide +kernel
theorem s218_51 {L : Nat} {xs : Nat → Int32} {d x : Nat} {M : qxM} {st : List Value} {ls : qxL} : Rs L xs (d) 218 51 ls st M x = Rs L xs (d) 218 52 ls (.int (nI 0) :: st) M x := Rs_next c218_51 rfl
theorem c218_52 : qx_code 218 52 = some (52, .if_icmp .ne 7, 55, 59, 0, 0) := by decide +kernel
theorem s218_52 {L : Nat} {xs : Nat → Int32} {d x : Nat} {M : qxM} {st : List Value} {ls : qxL} {z y : Int32} : Rs L xs (d) 218 52 ls (.int y :: .int z :: st) M x = if z = y then Rs L xs (d) 218 55 ls st M x else Rs L xs (d) 218 59 ls st M x := Rs_ite c218_52 rfl
theorem c218_55 : qx_code 218 55 = some (55, .iconst 1, 56, 0, 0, 0) := by decide +kernel
theorem s218_55 {L : Nat} {xs : Nat → Int32} {d x : Nat} {M : qxM} {st : List Value} {ls : qxL} : Rs L xs (d) 218 55 ls st M x = Rs L xs (d) 218 56 ls (.int (nI 1) :: st) M x := Rs_next c218_55 rfl
theorem c218_56 : qx_code 218 56 = some (56, .goto 4, 59, 60, 0, 0) := by decide +kernel
theorem s218_56 {L : Nat} {xs : Nat → Int32} {d x : Nat} {M : qxM} {st : List Value} {ls : qxL} : Rs L xs (d) 218 56 ls st M x = Rs L xs (d) 218 60 ls st M x := Rs_next c218_56 rfl
theorem c218_59 : qx_code 218 59 = some (59, .iconst 0, 60, 0, 0, 0) := by decide +kernel
theorem s218_59 {L : Nat} {xs : Nat → Int32} {d x : Nat} {M : qxM} {st : List Value} {ls : qxL} : Rs L xs (d) 218 59 ls st M x = Rs L xs (d) 218 60 ls (.int (nI 0) :: st) M x := Rs_next c218_59 rfl
theorem c218_60 : qx_code 218 60 = some (60, .ireturn, 61, 0, 0, 0) := by decide +kernel
theorem s218_60 {L : Nat} {xs : Nat → Int32} {d x : Nat} {M : qxM} {ls : qxL} {z : Int32} (h01 : z = 0 ∨ z = 1) : Rs L xs (d) 218 60 ls [.int z] M x = some (.inl (some (.int z)), M, x) := Rs_retw h01 c218_60 rfl
theorem c219_0 : qx_code 219 0 = some (0, .aload_n 0, 1, 0, 0, 0) := by decide +kernel
theorem s219_0 {L : Nat} {xs : Nat → Int32} {d x : Nat} {M : qxM} {st : List Value} {a1 a2 : Option Value} {z : Nat} : Rs L xs (d) 219 0 [some (.ref z), a1, a2] st M x = Rs L xs (d) 219 1 [some (.ref z), a1, a2] (.ref z :: st) M x := Rs_next c219_0 rfl
theorem c219_1 : qx_code 219 1 = some (1, .iload_n 1, 2, 0, 0, 0) := by decide +kernel
theorem s219_1 {L : Nat} {xs : Nat → Int32} {d x : Nat} {M : qxM} {st : List Value} {a0 a2 : Option Value} {z : Int32} : Rs L xs (d) 219 1 [a0, some (.int z), a2] st M x = Rs L xs (d) 219 2 [a0, some (.int z), a2] (.int z :: st) M x := Rs_next c219_1 rfl
theorem c219_2 : qx_code 219 2 = some (2, .iload_n 2, 3, 0, 0, 0) := by decide +kernel
theorem s219_2 {L : Nat} {xs : Nat → Int32} {d x : Nat} {M : qxM} {st : List Value} {a0 a1 : Option Value} {z : Int32} : Rs L xs (d) 219 2 [a0, a1, some (.int z)] st M x = Rs L xs (d) 219 3 [a0, a1, some (.int z)] (.int z :: st) M x := Rs_next c219_2 rfl
theorem c219_3 : qx_code 219 3 = some (3, .invokevirtual 197, 6, 216, 3, 1745) := by decide +kernel
theorem s219_3 {L : Nat} {xs : Nat → Int32} {d x : Nat} {M : qxM} {st : List Value} {ls : qxL} {t : Nat} {z0 : Int32} {z1 : Int32} (hk : qx_kd t = 18) (hs : st.length ≤ 4) : Rs L xs (d + 1) 219 3 ls (.int z1 :: .int z0 :: .ref t :: st) M x = (Rs L xs d 216 0 [some (.ref t), some (.int z0), some (.int z1)] [] M 0).bind (qx_kn L xs (d + 1) 219 3 6 216 ls st x) := by
  have h1 : qx_act L xs (qx_rt 219) (3, .invokevirtual 197, 6, 216, 3, 1745) ls (.int z1 :: .int z0 :: .ref t :: st) M = if 3 ≤ (.int z1 :: .int z0 :: .ref t :: st).length ∧ st.length ≤ 4 then some (.inr (.inr (.inr (216, [.ref t, .int z0, .int z1], st)))) else none := rfl
  rw [if_pos ⟨by simp [List.length_cons]; try omega, hs⟩] at h1
  have h2 := qx_kd_obj (k := 8) (by decide) hk
  exact Rs_call c219_3 h1 (by rw [show qx_args 216 [.ref t, .int z0, .int z1] = decide (qx_sh t = some (.inl 8)) from rfl]; exact decide_eq_true h2)
theorem c219_6 : qx_code 219 6 = some (6, .ifCond .eq 16, 9, 22, 0, 0) := by decide +kernel
theorem s219_6 {L : Nat} {xs : Nat → Int32} {d x : Nat} {M : qxM} {st : List Value} {ls : qxL} {z : Int32} : Rs L xs (d) 219 6 ls (.int z :: st) M x = if z = 0 then Rs L xs (d) 219 22 ls st M x else Rs L xs (d) 219 9 ls st M x := Rs_ite c219_6 rfl
theorem c219_9 : qx_code 219 9 = some (9, .aload_n 0, 10, 0, 0, 0) := by decide +kernel
theorem s219_9 {L : Nat} {xs : Nat → Int32} {d x : Nat} {M : qxM} {st : List Value} {a1 a2 : Option Value} {z : Nat} : Rs L xs (d) 219 9 [some (.ref z), a1, a2] st M x = Rs L xs (d) 219 10 [some (.ref z), a1, a2] (.ref z :: st) M x := Rs_next c219_9 rfl
theorem c219_10 : qx_code 219 10 = some (10, .iload_n 1, 11, 0, 0, 0) := by decide +kernel
theorem s219_10 {L : Nat} {xs : Nat → Int32} {d x : Nat} {M : qxM} {st : List Value} {a0 a2 : Option Value} {z : Int32} : Rs L xs (d) 219 10 [a0, some (.int z), a2] st M x = Rs L xs (d) 219 11 [a0, some (.int z), a2] (.int z :: st) M x := Rs_next c219_10 rfl
theorem c219_11 : qx_code 219 11 = some (11, .iload_n 2, 12, 0, 0, 0) := by decide +kernel
theorem s219_11 {L : Nat} {xs : Nat → Int32} {d x : Nat} {M : qxM} {st : List Value} {a0 a1 : Option Value} {z : Int32} : Rs L xs (d) 219 11 [a0, a1, some (.int z)] st M x = Rs L xs (d) 219 12 [a0, a1, some (.int z)] (.int z :: st) M x := Rs_next c219_11 rfl
theorem c219_12 : qx_code 219 12 = some (12, .invokevirtual 200, 15, 218, 3, 1749) := by decide +kernel
theorem s219_12 {L : Nat} {xs : Nat → Int32} {d x : Nat} {M : qxM} {st : List Value} {ls : qxL} {t : Nat} {z0 : Int32} {z1 : Int32} (hk : qx_kd t = 18) (hs : st.length ≤ 4) : Rs L xs (d + 1) 219 12 ls (.int z1 :: .int z0 :: .ref t :: st) M x = (Rs L xs d 218 0 [some (.ref t), some (.int z0), some (.int z1)] [] M 0).bind (qx_kn L xs (d + 1) 219 12 15 218 ls st x) := by
  have h1 : qx_act L xs (qx_rt 219) (12, .invokevirtual 200, 15, 218, 3, 1749) ls (.int z1 :: .int z0 :: .ref t :: st) M = if 3 ≤ (.int z1 :: .int z0 :: .ref t :: st).length ∧ st.length ≤ 4 then some (.inr (.inr (.inr (218, [.ref t, .int z0, .int z1], st)))) else none := rfl
  rw [if_pos ⟨by simp [List.length_cons]; try omega, hs⟩] at h1
  have h2 := qx_kd_obj (k := 8) (by decide) hk
  exact Rs_call c219_12 h1 (by rw [show qx_args 218 [.ref t, .int z0, .int z1] = decide (qx_sh t = some (.inl 8)) from rfl]; exact decide_eq_true h2)
theorem c219_15 : qx_code 219 15 = some (15, .ifCond .eq 7, 18, 22, 0, 0) := by decide +kernel
theorem s219_15 {L : Nat} {xs : Nat → Int32} {d x : Nat} {M : qxM} {st : List Value} {ls : qxL} {z : Int32} : Rs L xs (d) 219 15 ls (.int z :: st) M x = if z = 0 then Rs L xs (d) 219 22 ls st M x else Rs L xs (d) 219 18 ls st M x := Rs_ite c219_15 rfl
theorem c219_18 : qx_code 219 18 = some (18, .iconst 1, 19, 0, 0, 0) := by decide +kernel
theorem s219_18 {L : Nat} {xs : Nat → Int32} {d x : Nat} {M : qxM} {st : List Value} {ls : qxL} : Rs L xs (d) 219 18 ls st M x = Rs L xs (d) 219 19 ls (.int (nI 1) :: st) M x := Rs_next c219_18 rfl
theorem c219_19 : qx_code 219 19 = some (19, .goto 4, 22, 23, 0, 0) := by decide +kernel
theorem s219_19 {L : Nat} {xs : Nat → Int32} {d x : Nat} {M : qxM} {st : List Value} {ls : qxL} : Rs L xs (d) 219 19 ls st M x = Rs L xs (d) 219 23 ls st M x := Rs_next c219_19 rfl
theorem c219_22 : qx_code 219 22 = some (22, .iconst 0, 23, 0, 0, 0) := by decide +kernel
theorem s219_22 {L : Nat} {xs : Nat → Int32} {d x : Nat} {M : qxM} {st : List Value} {ls : qxL} : Rs L xs (d) 219 22 ls st M x = Rs L xs (d) 219 23 ls (.int (nI 0) :: st) M x := Rs_next c219_22 rfl
theorem c219_23 : qx_code 219 23 = some (23, .ireturn, 24, 0, 0, 0) := by decide +kernel
theorem s219_23 {L : Nat} {xs : Nat → Int32} {d x : Nat} {M : qxM} {ls : qxL} {z : Int32} (h01 : z = 0 ∨ z = 1) : Rs L xs (d) 219 23 ls [.int z] M x = some (.inl (some (.int z)), M, x) := Rs_retw h01 c219_23 rfl
theorem c220_0 : qx_code 220 0 = some (0, .iconst 0, 1, 0, 0, 0) := by decide +kernel
theorem s220_0 {L : Nat} {xs : Nat → Int32} {d x : Nat} {M : qxM} {st : List Value} {ls : qxL} : Rs L xs (d) 220 0 ls st M x = Rs L xs (d) 220 1 ls (.int (nI 0) :: st) M x := Rs_next c220_0 rfl
theorem c220_1 : qx_code 220 1 = some (1, .istore_n 2, 2, 0, 0, 0) := by decide +kernel
theorem s220_1i {L : Nat} {xs : Nat → Int32} {d x : Nat} {M : qxM} {st : List Value} {a0 a2 a3 : Option Value} {z : Int32} {y : Int32} : Rs L xs (d) 220 1 [a0, some (.int y), a2, a3] (.int z :: st) M x = Rs L xs (d) 220 2 [a0, some (.int y), some (.int z), a3] st M x := Rs_next c220_1 rfl
theorem s220_1r {L : Nat} {xs : Nat → Int32} {d x : Nat} {M : qxM} {st : List Value} {a0 a2 a3 : Option Value} {z : Int32} {y : Nat} : Rs L xs (d) 220 1 [a0, some (.ref y), a2, a3] (.int z :: st) M x = Rs L xs (d) 220 2 [a0, some (.ref y), some (.int z), a3] st M x := Rs_next c220_1 rfl
theorem s220_1n {L : Nat} {xs : Nat → Int32} {d x : Nat} {M : qxM} {st : List Value} {a0 a2 a3 : Option Value} {z : Int32} : Rs L xs (d) 220 1 [a0, none, a2, a3] (.int z :: st) M x = Rs L xs (d) 220 2 [a0, none, some (.int z), a3] st M x := Rs_next c220_1 rfl
theorem c220_2 : qx_code 220 2 = some (2, .iconst 0, 3, 0, 0, 0) := by decide +kernel
theorem s220_2 {L : Nat} {xs : Nat → Int32} {d x : Nat} {M : qxM} {st : List Value} {ls : qxL} : Rs L xs (d) 220 2 ls st M x = Rs L xs (d) 220 3 ls (.int (nI 0) :: st) M x := Rs_next c220_2 rfl
theorem c220_3 : qx_code 220 3 = some (3, .istore_n 3, 4, 0, 0, 0) := by decide +kernel
theorem s220_3i {L : Nat} {xs : Nat → Int32} {d x : Nat} {M : qxM} {st : List Value} {a0 a1 a3 : Option Value} {z : Int32} {y : Int32} : Rs L xs (d) 220 3 [a0, a1, some (.int y), a3] (.int z :: st) M x = Rs L xs (d) 220 4 [a0, a1, some (.int y), some (.int z)] st M x := Rs_next c220_3 rfl
theorem s220_3r {L : Nat} {xs : Nat → Int32} {d x : Nat} {M : qxM} {st : List Value} {a0 a1 a3 : Option Value} {z : Int32} {y : Nat} : Rs L xs (d) 220 3 [a0, a1, some (.ref y), a3] (.int z :: st) M x = Rs L xs (d) 220 4 [a0, a1, some (.ref y), some (.int z)] st M x := Rs_next c220_3 rfl
theorem s220_3n {L : Nat} {xs : Nat → Int32} {d x : Nat} {M : qxM} {st : List Value} {a0 a1 a3 : Option Value} {z : Int32} : Rs L xs (d) 220 3 [a0, a1, none, a3] (.int z :: st) M x = Rs L xs (d) 220 4 [a0, a1, none, some (.int z)] st M x := Rs_next c220_3 rfl
theorem c220_4 : qx_code 220 4 = some (4, .iload_n 3, 5, 0, 0, 0) := by decide +kernel
theorem s220_4 {L : Nat} {xs : Nat → Int32} {d x : Nat} {M : qxM} {st : List Value} {a0 a1 a2 : Option Value} {z : Int32} : Rs L xs (d) 220 4 [a0, a1, a2, some (.int z)] st M x = Rs L xs (d) 220 5 [a0, a1, a2, some (.int z)] (.int z :: st) M x := Rs_next c220_4 rfl
theorem c220_5 : qx_code 220 5 = some (5, .aload_n 0, 6, 0, 0, 0) := by decide +kernel
theorem s220_5 {L : Nat} {xs : Nat → Int32} {d x : Nat} {M : qxM} {st : List Value} {a1 a2 a3 : Option Value} {z : Nat} : Rs L xs (d) 220 5 [some (.ref z), a1, a2, a3] st M x = Rs L xs (d) 220 6 [some (.ref z), a1, a2, a3] (.ref z :: st) M x := Rs_next c220_5 rfl
theorem c220_6 : qx_code 220 6 = some (6, .getfield 9, 9, 8, 1, 1546) := by decide +kernel
theorem s220_6 {L : Nat} {xs : Nat → Int32} {d x : Nat} {M : qxM} {st : List Value} {ls : qxL} {t : Nat} (hk : qx_kd t = 18) : Rs L xs (d) 220 6 ls (.ref t :: st) M x = Rs L xs (d) 220 9 ls (.ref (t + 1) :: st) M x := Rs_when (qx_kd_obj (k := 8) (by decide) hk) c220_6 rfl
theorem c220_9 : qx_code 220 9 = some (9, .iconst 0, 10, 0, 0, 0) := by decide +kernel
theorem s220_9 {L : Nat} {xs : Nat → Int32} {d x : Nat} {M : qxM} {st : List Value} {ls : qxL} : Rs L xs (d) 220 9 ls st M x = Rs L xs (d) 220 10 ls (.int (nI 0) :: st) M x := Rs_next c220_9 rfl
theorem c220_10 : qx_code 220 10 = some (10, .iaload, 11, 0, 0, 0) := by decide +kernel
theorem s220_10 {L : Nat} {xs : Nat → Int32} {d x : Nat} {M : qxM} {st : List Value} {ls : qxL} {t : Nat} {j : Int32} (hk : qx_kd t = 0) (hj : qx_ib j (qx_ln t) = true) : Rs L xs (d) 220 10 ls (.int j :: .ref t :: st) M x = Rs L xs (d) 220 11 ls (.int (M.1 t j.toNatClampNeg) :: st) M x := by
  have h1 := qx_kd_row (k := 0) (by decide) hk
  exact Rs_unless (qx_ib_not hj) c220_10 (by unfold qx_act; dsimp only; rw [h1]; rfl)
theorem c220_11 : qx_code 220 11 = some (11, .if_icmp .ge 23, 14, 34, 0, 0) := by decide +kernel
theorem s220_11 {L : Nat} {xs : Nat → Int32} {d x : Nat} {M : qxM} {st : List Value} {ls : qxL} {z y : Int32} : Rs L xs (d) 220 11 ls (.int y :: .int z :: st) M x = if y ≤ z then Rs L xs (d) 220 34 ls st M x else Rs L xs (d) 220 14 ls st M x := Rs_ite c220_11 rfl
theorem c220_14 : qx_code 220 14 = some (14, .iload_n 2, 15, 0, 0, 0) := by decide +kernel
theorem s220_14 {L : Nat} {xs : Nat → Int32} {d x : Nat} {M : qxM} {st : List Value} {a0 a1 a3 : Option Value} {z : Int32} : Rs L xs (d) 220 14 [a0, a1, some (.int z), a3] st M x = Rs L xs (d) 220 15 [a0, a1, some (.int z), a3] (.int z :: st) M x := Rs_next c220_14 rfl
theorem c220_15 : qx_code 220 15 = some (15, .aload_n 0, 16, 0, 0, 0) := by decide +kernel
theorem s220_15 {L : Nat} {xs : Nat → Int32} {d x : Nat} {M : qxM} {st : List Value} {a1 a2 a3 : Option Value} {z : Nat} : Rs L xs (d) 220 15 [some (.ref z), a1, a2, a3] st M x = Rs L xs (d) 220 16 [some (.ref z), a1, a2, a3] (.ref z :: st) M x := Rs_next c220_15 rfl
theorem c220_16 : qx_code 220 16 = some (16, .iload_n 1, 17, 0, 0, 0) := by decide +kernel
theorem s220_16 {L : Nat} {xs : Nat → Int32} {d x : Nat} {M : qxM} {st : List Value} {a0 a2 a3 : Option Value} {z : Int32} : Rs L xs (d) 220 16 [a0, some (.int z), a2, a3] st M x = Rs L xs (d) 220 17 [a0, some (.int z), a2, a3] (.int z :: st) M x := Rs_next c220_16 rfl
theorem c220_17 : qx_code 220 17 = some (17, .iload_n 3, 18, 0, 0, 0) := by decide +kernel
theorem s220_17 {L : Nat} {xs : Nat → Int32} {d x : Nat} {M : qxM} {st : List Value} {a0 a1 a2 : Option Value} {z : Int32} : Rs L xs (d) 220 17 [a0, a1, a2, some (.int z)] st M x = Rs L xs (d) 220 18 [a0, a1, a2, some (.int z)] (.int z :: st) M x := Rs_next c220_17 rfl
theorem c220_18 : qx_code 220 18 = some (18, .invokevirtual 136, 21, 219, 3, 1741) := by decide +kernel
theorem s220_18 {L : Nat} {xs : Nat → Int32} {d x : Nat} {M : qxM} {st : List Value} {ls : qxL} {t : Nat} {z0 : Int32} {z1 : Int32} (hk : qx_kd t = 18) (hs : st.length ≤ 4) : Rs L xs (d + 1) 220 18 ls (.int z1 :: .int z0 :: .ref t :: st) M x = (Rs L xs d 219 0 [some (.ref t), some (.int z0), some (.int z1)] [] M 0).bind (qx_kn L xs (d + 1) 220 18 21 219 ls st x) := by
  have h1 : qx_act L xs (qx_rt 220) (18, .invokevirtual 136, 21, 219, 3, 1741) ls (.int z1 :: .int z0 :: .ref t :: st) M = if 3 ≤ (.int z1 :: .int z0 :: .ref t :: st).length ∧ st.length ≤ 4 then some (.inr (.inr (.inr (219, [.ref t, .int z0, .int z1], st)))) else none := rfl
  rw [if_pos ⟨by simp [List.length_cons]; try omega, hs⟩] at h1
  have h2 := qx_kd_obj (k := 8) (by decide) hk
  exact Rs_call c220_18 h1 (by rw [show qx_args 219 [.ref t, .int z0, .int z1] = decide (qx_sh t = some (.inl 8)) from rfl]; exact decide_eq_true h2)
theorem c220_21 : qx_code 220 21 = some (21, .invokestatic 203, 24, 179, 1, 1785) := by decide +kernel
theorem s220_21 {L : Nat} {xs : Nat → Int32} {d x : Nat} {M : qxM} {st : List Value} {ls : qxL} {z0 : Int32} (hs : st.length ≤ 4) : Rs L xs (d + 1) 220 21 ls (.int z0 :: st) M x = (Rs L xs d 179 0 [some (.int z0)] [] M 0).bind (qx_kn L xs (d + 1) 220 21 24 179 ls st x) := by
  have h1 : qx_act L xs (qx_rt 220) (21, .invokestatic 203, 24, 179, 1, 1785) ls (.int z0 :: st) M = if 1 ≤ (.int z0 :: st).length ∧ st.length ≤ 4 then some (.inr (.inr (.inr (179, [.int z0], st)))) else none := rfl
  rw [if_pos ⟨by simp [List.length_cons]; try omega, hs⟩] at h1
  exact Rs_call c220_21 h1 rfl
theorem c220_24 : qx_code 220 24 = some (24, .iload_n 3, 25, 0, 0, 0) := by decide +kernel
theorem s220_24 {L : Nat} {xs : Nat → Int32} {d x : Nat} {M : qxM} {st : List Value} {a0 a1 a2 : Option Value} {z : Int32} : Rs L xs (d) 220 24 [a0, a1, a2, some (.int z)] st M x = Rs L xs (d) 220 25 [a0, a1, a2, some (.int z)] (.int z :: st) M x := Rs_next c220_24 rfl
theorem c220_25 : qx_code 220 25 = some (25, .ishl, 26, 0, 0, 0) := by decide +kernel
theorem s220_25 {L : Nat} {xs : Nat → Int32} {d x : Nat} {M : qxM} {st : List Value} {ls : qxL} {z y : Int32} : Rs L xs (d) 220 25 ls (.int y :: .int z :: st) M x = Rs L xs (d) 220 26 ls (.int (z <<< (y &&& 31)) :: st) M x := Rs_next c220_25 rfl
theorem c220_26 : qx_code 220 26 = some (26, .ior, 27, 0, 0, 0) := by decide +kernel
theorem s220_26 {L : Nat} {xs : Nat → Int32} {d x : Nat} {M : qxM} {st : List Value} {ls : qxL} {z y : Int32} : Rs L xs (d) 220 26 ls (.int y :: .int z :: st) M x = Rs L xs (d) 220 27 ls (.int (z ||| y) :: st) M x := Rs_next c220_26 rfl
theorem c220_27 : qx_code 220 27 = some (27, .istore_n 2, 28, 0, 0, 0) := by decide +kernel
theorem s220_27i {L : Nat} {xs : Nat → Int32} {d x : Nat} {M : qxM} {st : List Value} {a0 a2 a3 : Option Value} {z : Int32} {y : Int32} : Rs L xs (d) 220 27 [a0, some (.int y), a2, a3] (.int z :: st) M x = Rs L xs (d) 220 28 [a0, some (.int y), some (.int z), a3] st M x := Rs_next c220_27 rfl
theorem s220_27r {L : Nat} {xs : Nat → Int32} {d x : Nat} {M : qxM} {st : List Value} {a0 a2 a3 : Option Value} {z : Int32} {y : Nat} : Rs L xs (d) 220 27 [a0, some (.ref y), a2, a3] (.int z :: st) M x = Rs L xs (d) 220 28 [a0, some (.ref y), some (.int z), a3] st M x := Rs_next c220_27 rfl
theorem s220_27n {L : Nat} {xs : Nat → Int32} {d x : Nat} {M : qxM} {st : List Value} {a0 a2 a3 : Option Value} {z : Int32} : Rs L xs (d) 220 27 [a0, none, a2, a3] (.int z :: st) M x = Rs L xs (d) 220 28 [a0, none, some (.int z), a3] st M x := Rs_next c220_27 rfl
theorem c220_28 : qx_code 220 28 = some (28, .iinc 3 1, 31, 0, 0, 0) := by decide +kernel
theorem s220_28i {L : Nat} {xs : Nat → Int32} {d x : Nat} {M : qxM} {st : List Value} {a0 a1 : Option Value} {z : Int32} {y : Int32} : Rs L xs (d) 220 28 [a0, a1, some (.int y), some (.int z)] st M x = Rs L xs (d) 220 31 [a0, a1, some (.int y), some (.int (z + (nI 1)))] st M x := Rs_next c220_28 rfl
theorem s220_28r {L : Nat} {xs : Nat → Int32} {d x : Nat} {M : qxM} {st : List Value} {a0 a1 : Option Value} {z : Int32} {y : Nat} : Rs L xs (d) 220 28 [a0, a1, some (.ref y), some (.int z)] st M x = Rs L xs (d) 220 31 [a0, a1, some (.ref y), some (.int (z + (nI 1)))] st M x := Rs_next c220_28 rfl
theorem s220_28n {L : Nat} {xs : Nat → Int32} {d x : Nat} {M : qxM} {st : List Value} {a0 a1 : Option Value} {z : Int32} : Rs L xs (d) 220 28 [a0, a1, none, some (.int z)] st M x = Rs L xs (d) 220 31 [a0, a1, none, some (.int (z + (nI 1)))] st M x := Rs_next c220_28 rfl
theorem c220_31 : qx_code 220 31 = some (31, .goto (-27), 34, 4, 0, 0) := by decide +kernel
theorem s220_31 {L : Nat} {xs : Nat → Int32} {d x : Nat} {M : qxM} {st : List Value} {ls : qxL} : Rs L xs (d) 220 31 ls st M x = Rs L xs (d) 220 4 ls st M x := Rs_next c220_31 rfl
theorem c220_34 : qx_code 220 34 = some (34, .iload_n 2, 35, 0, 0, 0) := by decide +kernel
theorem s220_34 {L : Nat} {xs : Nat → Int32} {d x : Nat} {M : qxM} {st : List Value} {a0 a1 a3 : Option Value} {z : Int32} : Rs L xs (d) 220 34 [a0, a1, some (.int z), a3] st M x = Rs L xs (d) 220 35 [a0, a1, some (.int z), a3] (.int z :: st) M x := Rs_next c220_34 rfl
theorem c220_35 : qx_code 220 35 = some (35, .ireturn, 36, 0, 0, 0) := by decide +kernel
theorem s220_35 {L : Nat} {xs : Nat → Int32} {d x : Nat} {M : qxM} {ls : qxL} {z : Int32} : Rs L xs (d) 220 35 ls [.int z] M x = some (.inl (some (.int z)), M, x) := Rs_ret c220_35 rfl
theorem c221_0 : qx_code 221 0 = some (0, .iconst 0, 1, 0, 0, 0) := by decide +kernel
theorem s221_0 {L : Nat} {xs : Nat → Int32} {d x : Nat} {M : qxM} {st : List Value} {ls : qxL} : Rs L xs (d) 221 0 ls st M x = Rs L xs (d) 221 1 ls (.int (nI 0) :: st) M x := Rs_next c221_0 rfl
theorem c221_1 : qx_code 221 1 = some (1, .istore_n 1, 2, 0, 0, 0) := by decide +kernel
theorem s221_1i {L : Nat} {xs : Nat → Int32} {d x : Nat} {M : qxM} {st : List Value} {a1 a2 : Option Value} {z : Int32} {y : Int32} : Rs L xs (d) 221 1 [some (.int y), a1, a2] (.int z :: st) M x = Rs L xs (d) 221 2 [some (.int y), some (.int z), a2] st M x := Rs_next c221_1 rfl
theorem s221_1r {L : Nat} {xs : Nat → Int32} {d x : Nat} {M : qxM} {st : List Value} {a1 a2 : Option Value} {z : Int32} {y : Nat} : Rs L xs (d) 221 1 [some (.ref y), a1, a2] (.int z :: st) M x = Rs L xs (d) 221 2 [some (.ref y), some (.int z), a2] st M x := Rs_next c221_1 rfl
theorem s221_1n {L : Nat} {xs : Nat → Int32} {d x : Nat} {M : qxM} {st : List Value} {a1 a2 : Option Value} {z : Int32} : Rs L xs (d) 221 1 [none, a1, a2] (.int z :: st) M x = Rs L xs (d) 221 2 [none, some (.int z), a2] st M x := Rs_next c221_1 rfl
theorem c221_2 : qx_code 221 2 = some (2, .iconst 0, 3, 0, 0, 0) := by decide +kernel
theorem s221_2 {L : Nat} {xs : Nat → Int32} {d x : Nat} {M : qxM} {st : List Value} {ls : qxL} : Rs L xs (d) 221 2 ls st M x = Rs L xs (d) 221 3 ls (.int (nI 0) :: st) M x := Rs_next c221_2 rfl
theorem c221_3 : qx_code 221 3 = some (3, .istore_n 2, 4, 0, 0, 0) := by decide +kernel
theorem s221_3i {L : Nat} {xs : Nat → Int32} {d x : Nat} {M : qxM} {st : List Value} {a0 a2 : Option Value} {z : Int32} {y : Int32} : Rs L xs (d) 221 3 [a0, some (.int y), a2] (.int z :: st) M x = Rs L xs (d) 221 4 [a0, some (.int y), some (.int z)] st M x := Rs_next c221_3 rfl
theorem s221_3r {L : Nat} {xs : Nat → Int32} {d x : Nat} {M : qxM} {st : List Value} {a0 a2 : Option Value} {z : Int32} {y : Nat} : Rs L xs (d) 221 3 [a0, some (.ref y), a2] (.int z :: st) M x = Rs L xs (d) 221 4 [a0, some (.ref y), some (.int z)] st M x := Rs_next c221_3 rfl
theorem s221_3n {L : Nat} {xs : Nat → Int32} {d x : Nat} {M : qxM} {st : List Value} {a0 a2 : Option Value} {z : Int32} : Rs L xs (d) 221 3 [a0, none, a2] (.int z :: st) M x = Rs L xs (d) 221 4 [a0, none, some (.int z)] st M x := Rs_next c221_3 rfl
theorem c221_4 : qx_code 221 4 = some (4, .iload_n 2, 5, 0, 0, 0) := by decide +kernel
theorem s221_4 {L : Nat} {xs : Nat → Int32} {d x : Nat} {M : qxM} {st : List Value} {a0 a1 : Option Value} {z : Int32} : Rs L xs (d) 221 4 [a0, a1, some (.int z)] st M x = Rs L xs (d) 221 5 [a0, a1, some (.int z)] (.int z :: st) M x := Rs_next c221_4 rfl
theorem c221_5 : qx_code 221 5 = some (5, .aload_n 0, 6, 0, 0, 0) := by decide +kernel
theorem s221_5 {L : Nat} {xs : Nat → Int32} {d x : Nat} {M : qxM} {st : List Value} {a1 a2 : Option Value} {z : Nat} : Rs L xs (d) 221 5 [some (.ref z), a1, a2] st M x = Rs L xs (d) 221 6 [some (.ref z), a1, a2] (.ref z :: st) M x := Rs_next c221_5 rfl
theorem c221_6 : qx_code 221 6 = some (6, .getfield 9, 9, 8, 1, 1546) := by decide +kernel
theorem s221_6 {L : Nat} {xs : Nat → Int32} {d x : Nat} {M : qxM} {st : List Value} {ls : qxL} {t : Nat} (hk : qx_kd t = 18) : Rs L xs (d) 221 6 ls (.ref t :: st) M x = Rs L xs (d) 221 9 ls (.ref (t + 1) :: st) M x := Rs_when (qx_kd_obj (k := 8) (by decide) hk) c221_6 rfl
theorem c221_9 : qx_code 221 9 = some (9, .iconst 0, 10, 0, 0, 0) := by decide +kernel
theorem s221_9 {L : Nat} {xs : Nat → Int32} {d x : Nat} {M : qxM} {st : List Value} {ls : qxL} : Rs L xs (d) 221 9 ls st M x = Rs L xs (d) 221 10 ls (.int (nI 0) :: st) M x := Rs_next c221_9 rfl
theorem c221_10 : qx_code 221 10 = some (10, .iaload, 11, 0, 0, 0) := by decide +kernel
theorem s221_10 {L : Nat} {xs : Nat → Int32} {d x : Nat} {M : qxM} {st : List Value} {ls : qxL} {t : Nat} {j : Int32} (hk : qx_kd t = 0) (hj : qx_ib j (qx_ln t) = true) : Rs L xs (d) 221 10 ls (.int j :: .ref t :: st) M x = Rs L xs (d) 221 11 ls (.int (M.1 t j.toNatClampNeg) :: st) M x := by
  have h1 := qx_kd_row (k := 0) (by decide) hk
  exact Rs_unless (qx_ib_not hj) c221_10 (by unfold qx_act; dsimp only; rw [h1]; rfl)
theorem c221_11 : qx_code 221 11 = some (11, .if_icmp .ge 42, 14, 53, 0, 0) := by decide +kernel
theorem s221_11 {L : Nat} {xs : Nat → Int32} {d x : Nat} {M : qxM} {st : List Value} {ls : qxL} {z y : Int32} : Rs L xs (d) 221 11 ls (.int y :: .int z :: st) M x = if y ≤ z then Rs L xs (d) 221 53 ls st M x else Rs L xs (d) 221 14 ls st M x := Rs_ite c221_11 rfl
theorem c221_14 : qx_code 221 14 = some (14, .aload_n 0, 15, 0, 0, 0) := by decide +kernel
theorem s221_14 {L : Nat} {xs : Nat → Int32} {d x : Nat} {M : qxM} {st : List Value} {a1 a2 : Option Value} {z : Nat} : Rs L xs (d) 221 14 [some (.ref z), a1, a2] st M x = Rs L xs (d) 221 15 [some (.ref z), a1, a2] (.ref z :: st) M x := Rs_next c221_14 rfl
theorem c221_15 : qx_code 221 15 = some (15, .iload_n 2, 16, 0, 0, 0) := by decide +kernel
theorem s221_15 {L : Nat} {xs : Nat → Int32} {d x : Nat} {M : qxM} {st : List Value} {a0 a1 : Option Value} {z : Int32} : Rs L xs (d) 221 15 [a0, a1, some (.int z)] st M x = Rs L xs (d) 221 16 [a0, a1, some (.int z)] (.int z :: st) M x := Rs_next c221_15 rfl
theorem c221_16 : qx_code 221 16 = some (16, .invokevirtual 132, 19, 213, 2, 1737) := by decide +kernel
theorem s221_16 {L : Nat} {xs : Nat → Int32} {d x : Nat} {M : qxM} {st : List Value} {ls : qxL} {t : Nat} {z0 : Int32} (hk : qx_kd t = 18) (hs : st.length ≤ 4) : Rs L xs (d + 1) 221 16 ls (.int z0 :: .ref t :: st) M x = (Rs L xs d 213 0 [some (.ref t), some (.int z0)] [] M 0).bind (qx_kn L xs (d + 1) 221 16 19 213 ls st x) := by
  have h1 : qx_act L xs (qx_rt 221) (16, .invokevirtual 132, 19, 213, 2, 1737) ls (.int z0 :: .ref t :: st) M = if 2 ≤ (.int z0 :: .ref t :: st).length ∧ st.length ≤ 4 then some (.inr (.inr (.inr (213, [.ref t, .int z0], st)))) else none := rfl
  rw [if_pos ⟨by simp [List.length_cons]; try omega, hs⟩] at h1
  have h2 := qx_kd_obj (k := 8) (by decide) hk
  exact Rs_call c221_16 h1 (by rw [show qx_args 213 [.ref t, .int z0] = decide (qx_sh t = some (.inl 8)) from rfl]; exact decide_eq_true h2)
theorem c221_19 : qx_code 221 19 = some (19, .iconst (-1), 20, 0, 0, 0) := by decide +kernel
theorem s221_19 {L : Nat} {xs : Nat → Int32} {d x : Nat} {M : qxM} {st : List Value} {ls : qxL} : Rs L xs (d) 221 19 ls st M x = Rs L xs (d) 221 20 ls (.int (-1) :: st) M x := Rs_next c221_19 rfl
theorem c221_20 : qx_code 221 20 = some (20, .if_icmp .eq 27, 23, 47, 0, 0) := by decide +kernel
theorem s221_20 {L : Nat} {xs : Nat → Int32} {d x : Nat} {M : qxM} {st : List Value} {ls : qxL} {z y : Int32} : Rs L xs (d) 221 20 ls (.int y :: .int z :: st) M x = if z = y then Rs L xs (d) 221 47 ls st M x else Rs L xs (d) 221 23 ls st M x := Rs_ite c221_20 rfl
theorem c221_23 : qx_code 221 23 = some (23, .aload_n 0, 24, 0, 0, 0) := by decide +kernel
theorem s221_23 {L : Nat} {xs : Nat → Int32} {d x : Nat} {M : qxM} {st : List Value} {a1 a2 : Option Value} {z : Nat} : Rs L xs (d) 221 23 [some (.ref z), a1, a2] st M x = Rs L xs (d) 221 24 [some (.ref z), a1, a2] (.ref z :: st) M x := Rs_next c221_23 rfl
theorem c221_24 : qx_code 221 24 = some (24, .iload_n 2, 25, 0, 0, 0) := by decide +kernel
theorem s221_24 {L : Nat} {xs : Nat → Int32} {d x : Nat} {M : qxM} {st : List Value} {a0 a1 : Option Value} {z : Int32} : Rs L xs (d) 221 24 [a0, a1, some (.int z)] st M x = Rs L xs (d) 221 25 [a0, a1, some (.int z)] (.int z :: st) M x := Rs_next c221_24 rfl
theorem c221_25 : qx_code 221 25 = some (25, .aload_n 0, 26, 0, 0, 0) := by decide +kernel
theorem s221_25 {L : Nat} {xs : Nat → Int32} {d x : Nat} {M : qxM} {st : List Value} {a1 a2 : Option Value} {z : Nat} : Rs L xs (d) 221 25 [some (.ref z), a1, a2] st M x = Rs L xs (d) 221 26 [some (.ref z), a1, a2] (.ref z :: st) M x := Rs_next c221_25 rfl
theorem c221_26 : qx_code 221 26 = some (26, .iload_n 2, 27, 0, 0, 0) := by decide +kernel
theorem s221_26 {L : Nat} {xs : Nat → Int32} {d x : Nat} {M : qxM} {st : List Value} {a0 a1 : Option Value} {z : Int32} : Rs L xs (d) 221 26 [a0, a1, some (.int z)] st M x = Rs L xs (d) 221 27 [a0, a1, some (.int z)] (.int z :: st) M x := Rs_next c221_26 rfl
theorem c221_27 : qx_code 221 27 = some (27, .invokevirtual 132, 30, 213, 2, 1737) := by decide +kernel
theorem s221_27 {L : Nat} {xs : Nat → Int32} {d x : Nat} {M : qxM} {st : List Value} {ls : qxL} {t : Nat} {z0 : Int32} (hk : qx_kd t = 18) (hs : st.length ≤ 4) : Rs L xs (d + 1) 221 27 ls (.int z0 :: .ref t :: st) M x = (Rs L xs d 213 0 [some (.ref t), some (.int z0)] [] M 0).bind (qx_kn L xs (d + 1) 221 27 30 213 ls st x) := by
  have h1 : qx_act L xs (qx_rt 221) (27, .invokevirtual 132, 30, 213, 2, 1737) ls (.int z0 :: .ref t :: st) M = if 2 ≤ (.int z0 :: .ref t :: st).length ∧ st.length ≤ 4 then some (.inr (.inr (.inr (213, [.ref t, .int z0], st)))) else none := rfl
  rw [if_pos ⟨by simp [List.length_cons]; try omega, hs⟩] at h1
  have h2 := qx_kd_obj (k := 8) (by decide) hk
  exact Rs_call c221_27 h1 (by rw [show qx_args 213 [.ref t, .int z0] = decide (qx_sh t = some (.inl 8)) from rfl]; exact decide_eq_true h2)
theorem c221_30 : qx_code 221 30 = some (30, .invokevirtual 136, 33, 219, 3, 1741) := by decide +kernel
theorem s221_30 {L : Nat} {xs : Nat → Int32} {d x : Nat} {M : qxM} {st : List Value} {ls : qxL} {t : Nat} {z0 : Int32} {z1 : Int32} (hk : qx_kd t = 18) (hs : st.length ≤ 4) : Rs L xs (d + 1) 221 30 ls (.int z1 :: .int z0 :: .ref t :: st) M x = (Rs L xs d 219 0 [some (.ref t), some (.int z0), some (.int z1)] [] M 0).bind (qx_kn L xs (d + 1) 221 30 33 219 ls st x) := by
  have h1 : qx_act L xs (qx_rt 221) (30, .invokevirtual 136, 33, 219, 3, 1741) ls (.int z1 :: .int z0 :: .ref t :: st) M = if 3 ≤ (.int z1 :: .int z0 :: .ref t :: st).length ∧ st.length ≤ 4 then some (.inr (.inr (.inr (219, [.ref t, .int z0, .int z1], st)))) else none := rfl
  rw [if_pos ⟨by simp [List.length_cons]; try omega, hs⟩] at h1
  have h2 := qx_kd_obj (k := 8) (by decide) hk
  exact Rs_call c221_30 h1 (by rw [show qx_args 219 [.ref t, .int z0, .int z1] = decide (qx_sh t = some (.inl 8)) from rfl]; exact decide_eq_true h2)
theorem c221_33 : qx_code 221 33 = some (33, .ifCond .eq 6, 36, 39, 0, 0) := by decide +kernel
theorem s221_33 {L : Nat} {xs : Nat → Int32} {d x : Nat} {M : qxM} {st : List Value} {ls : qxL} {z : Int32} : Rs L xs (d) 221 33 ls (.int z :: st) M x = if z = 0 then Rs L xs (d) 221 39 ls st M x else Rs L xs (d) 221 36 ls st M x := Rs_ite c221_33 rfl
theorem c221_36 : qx_code 221 36 = some (36, .goto 11, 39, 47, 0, 0) := by decide +kernel
theorem s221_36 {L : Nat} {xs : Nat → Int32} {d x : Nat} {M : qxM} {st : List Value} {ls : qxL} : Rs L xs (d) 221 36 ls st M x = Rs L xs (d) 221 47 ls st M x := Rs_next c221_36 rfl
theorem c221_39 : qx_code 221 39 = some (39, .aload_n 0, 40, 0, 0, 0) := by decide +kernel
theorem s221_39 {L : Nat} {xs : Nat → Int32} {d x : Nat} {M : qxM} {st : List Value} {a1 a2 : Option Value} {z : Nat} : Rs L xs (d) 221 39 [some (.ref z), a1, a2] st M x = Rs L xs (d) 221 40 [some (.ref z), a1, a2] (.ref z :: st) M x := Rs_next c221_39 rfl
theorem c221_40 : qx_code 221 40 = some (40, .iload_n 2, 41, 0, 0, 0) := by decide +kernel
theorem s221_40 {L : Nat} {xs : Nat → Int32} {d x : Nat} {M : qxM} {st : List Value} {a0 a1 : Option Value} {z : Int32} : Rs L xs (d) 221 40 [a0, a1, some (.int z)] st M x = Rs L xs (d) 221 41 [a0, a1, some (.int z)] (.int z :: st) M x := Rs_next c221_40 rfl
theorem c221_41 : qx_code 221 41 = some (41, .invokevirtual 207, 44, 215, 2, 1761) := by decide +kernel
theorem s221_41 {L : Nat} {xs : Nat → Int32} {d x : Nat} {M : qxM} {st : List Value} {ls : qxL} {t : Nat} {z0 : Int32} (hk : qx_kd t = 18) (hs : st.length ≤ 4) : Rs L xs (d + 1) 221 41 ls (.int z0 :: .ref t :: st) M x = (Rs L xs d 215 0 [some (.ref t), some (.int z0)] [] M 0).bind (qx_kn L xs (d + 1) 221 41 44 215 ls st x) := by
  have h1 : qx_act L xs (qx_rt 221) (41, .invokevirtual 207, 44, 215, 2, 1761) ls (.int z0 :: .ref t :: st) M = if 2 ≤ (.int z0 :: .ref t :: st).length ∧ st.length ≤ 4 then some (.inr (.inr (.inr (215, [.ref t, .int z0], st)))) else none := rfl
  rw [if_pos ⟨by simp [List.length_cons]; try omega, hs⟩] at h1
  have h2 := qx_kd_obj (k := 8) (by decide) hk
  exact Rs_call c221_41 h1 (by rw [show qx_args 215 [.ref t, .int z0] = decide (qx_sh t = some (.inl 8)) from rfl]; exact decide_eq_true h2)
theorem c221_44 : qx_code 221 44 = some (44, .iinc 1 1, 47, 0, 0, 0) := by decide +kernel
theorem s221_44i {L : Nat} {xs : Nat → Int32} {d x : Nat} {M : qxM} {st : List Value} {a2 : Option Value} {z : Int32} {y : Int32} : Rs L xs (d) 221 44 [some (.int y), some (.int z), a2] st M x = Rs L xs (d) 221 47 [some (.int y), some (.int (z + (nI 1))), a2] st M x := Rs_next c221_44 rfl
theorem s221_44r {L : Nat} {xs : Nat → Int32} {d x : Nat} {M : qxM} {st : List Value} {a2 : Option Value} {z : Int32} {y : Nat} : Rs L xs (d) 221 44 [some (.ref y), some (.int z), a2] st M x = Rs L xs (d) 221 47 [some (.ref y), some (.int (z + (nI 1))), a2] st M x := Rs_next c221_44 rfl
theorem s221_44n {L : Nat} {xs : Nat → Int32} {d x : Nat} {M : qxM} {st : List Value} {a2 : Option Value} {z : Int32} : Rs L xs (d) 221 44 [none, some (.int z), a2] st M x = Rs L xs (d) 221 47 [none, some (.int (z + (nI 1))), a2] st M x := Rs_next c221_44 rfl
theorem c221_47 : qx_code 221 47 = some (47, .iinc 2 1, 50, 0, 0, 0) := by decide +kernel
theorem s221_47i {L : Nat} {xs : Nat → Int32} {d x : Nat} {M : qxM} {st : List Value} {a0 : Option Value} {z : Int32} {y : Int32} : Rs L xs (d) 221 47 [a0, some (.int y), some (.int z)] st M x = Rs L xs (d) 221 50 [a0, some (.int y), some (.int (z + (nI 1)))] st M x := Rs_next c221_47 rfl
theorem s221_47r {L : Nat} {xs : Nat → Int32} {d x : Nat} {M : qxM} {st : List Value} {a0 : Option Value} {z : Int32} {y : Nat} : Rs L xs (d) 221 47 [a0, some (.ref y), some (.int z)] st M x = Rs L xs (d) 221 50 [a0, some (.ref y), some (.int (z + (nI 1)))] st M x := Rs_next c221_47 rfl
theorem s221_47n {L : Nat} {xs : Nat → Int32} {d x : Nat} {M : qxM} {st : List Value} {a0 : Option Value} {z : Int32} : Rs L xs (d) 221 47 [a0, none, some (.int z)] st M x = Rs L xs (d) 221 50 [a0, none, some (.int (z + (nI 1)))] st M x := Rs_next c221_47 rfl
theorem c221_50 : qx_code 221 50 = some (50, .goto (-46), 53, 4, 0, 0) := by decide +kernel
theorem s221_50 {L : Nat} {xs : Nat → Int32} {d x : Nat} {M : qxM} {st : List Value} {ls : qxL} : Rs L xs (d) 221 50 ls st M x = Rs L xs (d) 221 4 ls st M x := Rs_next c221_50 rfl
theorem c221_53 : qx_code 221 53 = some (53, .iload_n 1, 54, 0, 0, 0) := by decide +kernel
theorem s221_53 {L : Nat} {xs : Nat → Int32} {d x : Nat} {M : qxM} {st : List Value} {a0 a2 : Option Value} {z : Int32} : Rs L xs (d) 221 53 [a0, some (.int z), a2] st M x = Rs L xs (d) 221 54 [a0, some (.int z), a2] (.int z :: st) M x := Rs_next c221_53 rfl
theorem c221_54 : qx_code 221 54 = some (54, .ireturn, 55, 0, 0, 0) := by decide +kernel
theorem s221_54 {L : Nat} {xs : Nat → Int32} {d x : Nat} {M : qxM} {ls : qxL} {z : Int32} : Rs L xs (d) 221 54 ls [.int z] M x = some (.inl (some (.int z)), M, x) := Rs_ret c221_54 rfl
theorem c222_0 : qx_code 222 0 = some (0, .iconst 0, 1, 0, 0, 0) := by decide +kernel
theorem s222_0 {L : Nat} {xs : Nat → Int32} {d x : Nat} {M : qxM} {st : List Value} {ls : qxL} : Rs L xs (d) 222 0 ls st M x = Rs L xs (d) 222 1 ls (.int (nI 0) :: st) M x := Rs_next c222_0 rfl
theorem c222_1 : qx_code 222 1 = some (1, .istore_n 2, 2, 0, 0, 0) := by decide +kernel
theorem s222_1i {L : Nat} {xs : Nat → Int32} {d x : Nat} {M : qxM} {st : List Value} {a0 a2 a3 : Option Value} {z : Int32} {y : Int32} : Rs L xs (d) 222 1 [a0, some (.int y), a2, a3] (.int z :: st) M x = Rs L xs (d) 222 2 [a0, some (.int y), some (.int z), a3] st M x := Rs_next c222_1 rfl
theorem s222_1r {L : Nat} {xs : Nat → Int32} {d x : Nat} {M : qxM} {st : List Value} {a0 a2 a3 : Option Value} {z : Int32} {y : Nat} : Rs L xs (d) 222 1 [a0, some (.ref y), a2, a3] (.int z :: st) M x = Rs L xs (d) 222 2 [a0, some (.ref y), some (.int z), a3] st M x := Rs_next c222_1 rfl
theorem s222_1n {L : Nat} {xs : Nat → Int32} {d x : Nat} {M : qxM} {st : List Value} {a0 a2 a3 : Option Value} {z : Int32} : Rs L xs (d) 222 1 [a0, none, a2, a3] (.int z :: st) M x = Rs L xs (d) 222 2 [a0, none, some (.int z), a3] st M x := Rs_next c222_1 rfl
theorem c222_2 : qx_code 222 2 = some (2, .iconst 0, 3, 0, 0, 0) := by decide +kernel
theorem s222_2 {L : Nat} {xs : Nat → Int32} {d x : Nat} {M : qxM} {st : List Value} {ls : qxL} : Rs L xs (d) 222 2 ls st M x = Rs L xs (d) 222 3 ls (.int (nI 0) :: st) M x := Rs_next c222_2 rfl
theorem c222_3 : qx_code 222 3 = some (3, .istore_n 3, 4, 0, 0, 0) := by decide +kernel
theorem s222_3i {L : Nat} {xs : Nat → Int32} {d x : Nat} {M : qxM} {st : List Value} {a0 a1 a3 : Option Value} {z : Int32} {y : Int32} : Rs L xs (d) 222 3 [a0, a1, some (.int y), a3] (.int z :: st) M x = Rs L xs (d) 222 4 [a0, a1, some (.int y), some (.int z)] st M x := Rs_next c222_3 rfl
theorem s222_3r {L : Nat} {xs : Nat → Int32} {d x : Nat} {M : qxM} {st : List Value} {a0 a1 a3 : Option Value} {z : Int32} {y : Nat} : Rs L xs (d) 222 3 [a0, a1, some (.ref y), a3] (.int z :: st) M x = Rs L xs (d) 222 4 [a0, a1, some (.ref y), some (.int z)] st M x := Rs_next c222_3 rfl
theorem s222_3n {L : Nat} {xs : Nat → Int32} {d x : Nat} {M : qxM} {st : List Value} {a0 a1 a3 : Option Value} {z : Int32} : Rs L xs (d) 222 3 [a0, a1, none, a3] (.int z :: st) M x = Rs L xs (d) 222 4 [a0, a1, none, some (.int z)] st M x := Rs_next c222_3 rfl
theorem c222_4 : qx_code 222 4 = some (4, .iload_n 3, 5, 0, 0, 0) := by decide +kernel
theorem s222_4 {L : Nat} {xs : Nat → Int32} {d x : Nat} {M : qxM} {st : List Value} {a0 a1 a2 : Option Value} {z : Int32} : Rs L xs (d) 222 4 [a0, a1, a2, some (.int z)] st M x = Rs L xs (d) 222 5 [a0, a1, a2, some (.int z)] (.int z :: st) M x := Rs_next c222_4 rfl
theorem c222_5 : qx_code 222 5 = some (5, .aload_n 0, 6, 0, 0, 0) := by decide +kernel
theorem s222_5 {L : Nat} {xs : Nat → Int32} {d x : Nat} {M : qxM} {st : List Value} {a1 a2 a3 : Option Value} {z : Nat} : Rs L xs (d) 222 5 [some (.ref z), a1, a2, a3] st M x = Rs L xs (d) 222 6 [some (.ref z), a1, a2, a3] (.ref z :: st) M x := Rs_next c222_5 rfl
theorem c222_6 : qx_code 222 6 = some (6, .getfield 9, 9, 8, 1, 1546) := by decide +kernel
theorem s222_6 {L : Nat} {xs : Nat → Int32} {d x : Nat} {M : qxM} {st : List Value} {ls : qxL} {t : Nat} (hk : qx_kd t = 18) : Rs L xs (d) 222 6 ls (.ref t :: st) M x = Rs L xs (d) 222 9 ls (.ref (t + 1) :: st) M x := Rs_when (qx_kd_obj (k := 8) (by decide) hk) c222_6 rfl
theorem c222_9 : qx_code 222 9 = some (9, .iconst 0, 10, 0, 0, 0) := by decide +kernel
theorem s222_9 {L : Nat} {xs : Nat → Int32} {d x : Nat} {M : qxM} {st : List Value} {ls : qxL} : Rs L xs (d) 222 9 ls st M x = Rs L xs (d) 222 10 ls (.int (nI 0) :: st) M x := Rs_next c222_9 rfl
theorem c222_10 : qx_code 222 10 = some (10, .iaload, 11, 0, 0, 0) := by decide +kernel
theorem s222_10 {L : Nat} {xs : Nat → Int32} {d x : Nat} {M : qxM} {st : List Value} {ls : qxL} {t : Nat} {j : Int32} (hk : qx_kd t = 0) (hj : qx_ib j (qx_ln t) = true) : Rs L xs (d) 222 10 ls (.int j :: .ref t :: st) M x = Rs L xs (d) 222 11 ls (.int (M.1 t j.toNatClampNeg) :: st) M x := by
  have h1 := qx_kd_row (k := 0) (by decide) hk
  exact Rs_unless (qx_ib_not hj) c222_10 (by unfold qx_act; dsimp only; rw [h1]; rfl)
theorem c222_11 : qx_code 222 11 = some (11, .if_icmp .ge 36, 14, 47, 0, 0) := by decide +kernel
theorem s222_11 {L : Nat} {xs : Nat → Int32} {d x : Nat} {M : qxM} {st : List Value} {ls : qxL} {z y : Int32} : Rs L xs (d) 222 11 ls (.int y :: .int z :: st) M x = if y ≤ z then Rs L xs (d) 222 47 ls st M x else Rs L xs (d) 222 14 ls st M x := Rs_ite c222_11 rfl
theorem c222_14 : qx_code 222 14 = some (14, .iload_n 2, 15, 0, 0, 0) := by decide +kernel
theorem s222_14 {L : Nat} {xs : Nat → Int32} {d x : Nat} {M : qxM} {st : List Value} {a0 a1 a3 : Option Value} {z : Int32} : Rs L xs (d) 222 14 [a0, a1, some (.int z), a3] st M x = Rs L xs (d) 222 15 [a0, a1, some (.int z), a3] (.int z :: st) M x := Rs_next c222_14 rfl
theorem c222_15 : qx_code 222 15 = some (15, .iload_n 1, 16, 0, 0, 0) := by decide +kernel
theorem s222_15 {L : Nat} {xs : Nat → Int32} {d x : Nat} {M : qxM} {st : List Value} {a0 a2 a3 : Option Value} {z : Int32} : Rs L xs (d) 222 15 [a0, some (.int z), a2, a3] st M x = Rs L xs (d) 222 16 [a0, some (.int z), a2, a3] (.int z :: st) M x := Rs_next c222_15 rfl
theorem c222_16 : qx_code 222 16 = some (16, .ifCond .eq 11, 19, 27, 0, 0) := by decide +kernel
theorem s222_16 {L : Nat} {xs : Nat → Int32} {d x : Nat} {M : qxM} {st : List Value} {ls : qxL} {z : Int32} : Rs L xs (d) 222 16 ls (.int z :: st) M x = if z = 0 then Rs L xs (d) 222 27 ls st M x else Rs L xs (d) 222 19 ls st M x := Rs_ite c222_16 rfl
theorem c222_19 : qx_code 222 19 = some (19, .aload_n 0, 20, 0, 0, 0) := by decide +kernel
theorem s222_19 {L : Nat} {xs : Nat → Int32} {d x : Nat} {M : qxM} {st : List Value} {a1 a2 a3 : Option Value} {z : Nat} : Rs L xs (d) 222 19 [some (.ref z), a1, a2, a3] st M x = Rs L xs (d) 222 20 [some (.ref z), a1, a2, a3] (.ref z :: st) M x := Rs_next c222_19 rfl
theorem c222_20 : qx_code 222 20 = some (20, .iload_n 3, 21, 0, 0, 0) := by decide +kernel
theorem s222_20 {L : Nat} {xs : Nat → Int32} {d x : Nat} {M : qxM} {st : List Value} {a0 a1 a2 : Option Value} {z : Int32} : Rs L xs (d) 222 20 [a0, a1, a2, some (.int z)] st M x = Rs L xs (d) 222 21 [a0, a1, a2, some (.int z)] (.int z :: st) M x := Rs_next c222_20 rfl
theorem c222_21 : qx_code 222 21 = some (21, .invokevirtual 210, 24, 220, 2, 1781) := by decide +kernel
theorem s222_21 {L : Nat} {xs : Nat → Int32} {d x : Nat} {M : qxM} {st : List Value} {ls : qxL} {t : Nat} {z0 : Int32} (hk : qx_kd t = 18) (hs : st.length ≤ 4) : Rs L xs (d + 1) 222 21 ls (.int z0 :: .ref t :: st) M x = (Rs L xs d 220 0 [some (.ref t), some (.int z0), none, none] [] M 0).bind (qx_kn L xs (d + 1) 222 21 24 220 ls st x) := by
  have h1 : qx_act L xs (qx_rt 222) (21, .invokevirtual 210, 24, 220, 2, 1781) ls (.int z0 :: .ref t :: st) M = if 2 ≤ (.int z0 :: .ref t :: st).length ∧ st.length ≤ 4 then some (.inr (.inr (.inr (220, [.ref t, .int z0], st)))) else none := rfl
  rw [if_pos ⟨by simp [List.length_cons]; try omega, hs⟩] at h1
  have h2 := qx_kd_obj (k := 8) (by decide) hk
  exact Rs_call c222_21 h1 (by rw [show qx_args 220 [.ref t, .int z0] = decide (qx_sh t = some (.inl 8)) from rfl]; exact decide_eq_true h2)
theorem c222_24 : qx_code 222 24 = some (24, .goto 12, 27, 36, 0, 0) := by decide +kernel
theorem s222_24 {L : Nat} {xs : Nat → Int32} {d x : Nat} {M : qxM} {st : List Value} {ls : qxL} : Rs L xs (d) 222 24 ls st M x = Rs L xs (d) 222 36 ls st M x := Rs_next c222_24 rfl
theorem c222_27 : qx_code 222 27 = some (27, .aload_n 0, 28, 0, 0, 0) := by decide +kernel
theorem s222_27 {L : Nat} {xs : Nat → Int32} {d x : Nat} {M : qxM} {st : List Value} {a1 a2 a3 : Option Value} {z : Nat} : Rs L xs (d) 222 27 [some (.ref z), a1, a2, a3] st M x = Rs L xs (d) 222 28 [some (.ref z), a1, a2, a3] (.ref z :: st) M x := Rs_next c222_27 rfl
theorem c222_28 : qx_code 222 28 = some (28, .getfield 9, 31, 8, 1, 1546) := by decide +kernel
theorem s222_28 {L : Nat} {xs : Nat → Int32} {d x : Nat} {M : qxM} {st : List Value} {ls : qxL} {t : Nat} (hk : qx_kd t = 18) : Rs L xs (d) 222 28 ls (.ref t :: st) M x = Rs L xs (d) 222 31 ls (.ref (t + 1) :: st) M x := Rs_when (qx_kd_obj (k := 8) (by decide) hk) c222_28 rfl
theorem c222_31 : qx_code 222 31 = some (31, .bipush 7, 33, 0, 0, 0) := by decide +kernel
theorem s222_31 {L : Nat} {xs : Nat → Int32} {d x : Nat} {M : qxM} {st : List Value} {ls : qxL} : Rs L xs (d) 222 31 ls st M x = Rs L xs (d) 222 33 ls (.int (nI 7) :: st) M x := Rs_next c222_31 rfl
theorem c222_33 : qx_code 222 33 = some (33, .iload_n 3, 34, 0, 0, 0) := by decide +kernel
theorem s222_33 {L : Nat} {xs : Nat → Int32} {d x : Nat} {M : qxM} {st : List Value} {a0 a1 a2 : Option Value} {z : Int32} : Rs L xs (d) 222 33 [a0, a1, a2, some (.int z)] st M x = Rs L xs (d) 222 34 [a0, a1, a2, some (.int z)] (.int z :: st) M x := Rs_next c222_33 rfl
theorem c222_34 : qx_code 222 34 = some (34, .iadd, 35, 0, 0, 0) := by decide +kernel
theorem s222_34 {L : Nat} {xs : Nat → Int32} {d x : Nat} {M : qxM} {st : List Value} {ls : qxL} {z y : Int32} : Rs L xs (d) 222 34 ls (.int y :: .int z :: st) M x = Rs L xs (d) 222 35 ls (.int (z + y) :: st) M x := Rs_next c222_34 rfl
theorem c222_35 : qx_code 222 35 = some (35, .iaload, 36, 0, 0, 0) := by decide +kernel
theorem s222_35 {L : Nat} {xs : Nat → Int32} {d x : Nat} {M : qxM} {st : List Value} {ls : qxL} {t : Nat} {j : Int32} (hk : qx_kd t = 0) (hj : qx_ib j (qx_ln t) = true) : Rs L xs (d) 222 35 ls (.int j :: .ref t :: st) M x = Rs L xs (d) 222 36 ls (.int (M.1 t j.toNatClampNeg) :: st) M x := by
  have h1 := qx_kd_row (k := 0) (by decide) hk
  exact Rs_unless (qx_ib_not hj) c222_35 (by unfold qx_act; dsimp only; rw [h1]; rfl)
theorem c222_36 : qx_code 222 36 = some (36, .invokestatic 194, 39, 209, 1, 1788) := by decide +kernel
theorem s222_36 {L : Nat} {xs : Nat → Int32} {d x : Nat} {M : qxM} {st : List Value} {ls : qxL} {z0 : Int32} (hs : st.length ≤ 4) : Rs L xs (d + 1) 222 36 ls (.int z0 :: st) M x = (Rs L xs d 209 0 [some (.int z0), none, none] [] M 0).bind (qx_kn L xs (d + 1) 222 36 39 209 ls st x) := by
  have h1 : qx_act L xs (qx_rt 222) (36, .invokestatic 194, 39, 209, 1, 1788) ls (.int z0 :: st) M = if 1 ≤ (.int z0 :: st).length ∧ st.length ≤ 4 then some (.inr (.inr (.inr (209, [.int z0], st)))) else none := rfl
  rw [if_pos ⟨by simp [List.length_cons]; try omega, hs⟩] at h1
  exact Rs_call c222_36 h1 rfl
theorem c222_39 : qx_code 222 39 = some (39, .iadd, 40, 0, 0, 0) := by decide +kernel
theorem s222_39 {L : Nat} {xs : Nat → Int32} {d x : Nat} {M : qxM} {st : List Value} {ls : qxL} {z y : Int32} : Rs L xs (d) 222 39 ls (.int y :: .int z :: st) M x = Rs L xs (d) 222 40 ls (.int (z + y) :: st) M x := Rs_next c222_39 rfl
theorem c222_40 : qx_code 222 40 = some (40, .istore_n 2, 41, 0, 0, 0) := by decide +kernel
theorem s222_40i {L : Nat} {xs : Nat → Int32} {d x : Nat} {M : qxM} {st : List Value} {a0 a2 a3 : Option Value} {z : Int32} {y : Int32} : Rs L xs (d) 222 40 [a0, some (.int y), a2, a3] (.int z :: st) M x = Rs L xs (d) 222 41 [a0, some (.int y), some (.int z), a3] st M x := Rs_next c222_40 rfl
theorem s222_40r {L : Nat} {xs : Nat → Int32} {d x : Nat} {M : qxM} {st : List Value} {a0 a2 a3 : Option Value} {z : Int32} {y : Nat} : Rs L xs (d) 222 40 [a0, some (.ref y), a2, a3] (.int z :: st) M x = Rs L xs (d) 222 41 [a0, some (.ref y), some (.int z), a3] st M x := Rs_next c222_40 rfl
theorem s222_40n {L : Nat} {xs : Nat → Int32} {d x : Nat} {M : qxM} {st : List Value} {a0 a2 a3 : Option Value} {z : Int32} : Rs L xs (d) 222 40 [a0, none, a2, a3] (.int z :: st) M x = Rs L xs (d) 222 41 [a0, none, some (.int z), a3] st M x := Rs_next c222_40 rfl
theorem c222_41 : qx_code 222 41 = some (41, .iinc 3 1, 44, 0, 0, 0) := by decide +kernel
theorem s222_41i {L : Nat} {xs : Nat → Int32} {d x : Nat} {M : qxM} {st : List Value} {a0 a1 : Option Value} {z : Int32} {y : Int32} : Rs L xs (d) 222 41 [a0, a1, some (.int y), some (.int z)] st M x = Rs L xs (d) 222 44 [a0, a1, some (.int y), some (.int (z + (nI 1)))] st M x := Rs_next c222_41 rfl
theorem s222_41r {L : Nat} {xs : Nat → Int32} {d x : Nat} {M : qxM} {st : List Value} {a0 a1 : Option Value} {z : Int32} {y : Nat} : Rs L xs (d) 222 41 [a0, a1, some (.ref y), some (.int z)] st M x = Rs L xs (d) 222 44 [a0, a1, some (.ref y), some (.int (z + (nI 1)))] st M x := Rs_next c222_41 rfl
theorem s222_41n {L : Nat} {xs : Nat → Int32} {d x : Nat} {M : qxM} {st : List Value} {a0 a1 : Option Value} {z : Int32} : Rs L xs (d) 222 41 [a0, a1, none, some (.int z)] st M x = Rs L xs (d) 222 44 [a0, a1, none, some (.int (z + (nI 1)))] st M x := Rs_next c222_41 rfl
theorem c222_44 : qx_code 222 44 = some (44, .goto (-40), 47, 4, 0, 0) := by decide +kernel
theorem s222_44 {L : Nat} {xs : Nat → Int32} {d x : Nat} {M : qxM} {st : List Value} {ls : qxL} : Rs L xs (d) 222 44 ls st M x = Rs L xs (d) 222 4 ls st M x := Rs_next c222_44 rfl
theorem c222_47 : qx_code 222 47 = some (47, .iload_n 2, 48, 0, 0, 0) := by decide +kernel
theorem s222_47 {L : Nat} {xs : Nat → Int32} {d x : Nat} {M : qxM} {st : List Value} {a0 a1 a3 : Option Value} {z : Int32} : Rs L xs (d) 222 47 [a0, a1, some (.int z), a3] st M x = Rs L xs (d) 222 48 [a0, a1, some (.int z), a3] (.int z :: st) M x := Rs_next c222_47 rfl
theorem c222_48 : qx_code 222 48 = some (48, .iconst 2, 49, 0, 0, 0) := by decide +kernel
theorem s222_48 {L : Nat} {xs : Nat → Int32} {d x : Nat} {M : qxM} {st : List Value} {ls : qxL} : Rs L xs (d) 222 48 ls st M x = Rs L xs (d) 222 49 ls (.int (nI 2) :: st) M x := Rs_next c222_48 rfl
theorem c222_49 : qx_code 222 49 = some (49, .idiv, 50, 0, 0, 0) := by decide +kernel
theorem s222_49 {L : Nat} {xs : Nat → Int32} {d x : Nat} {M : qxM} {st : List Value} {ls : qxL} {z y : Int32} (h : ¬ y = 0) : Rs L xs (d) 222 49 ls (.int y :: .int z :: st) M x = Rs L xs (d) 222 50 ls (.int (z / y) :: st) M x := Rs_unless h c222_49 rfl
theorem c222_50 : qx_code 222 50 = some (50, .ireturn, 51, 0, 0, 0) := by decide +kernel
theorem s222_50 {L : Nat} {xs : Nat → Int32} {d x : Nat} {M : qxM} {ls : qxL} {z : Int32} : Rs L xs (d) 222 50 ls [.int z] M x = some (.inl (some (.int z)), M, x) := Rs_ret c222_50 rfl
theorem c223_0 : qx_code 223 0 = some (0, .iconst 0, 1, 0, 0, 0) := by decide +kernel
theorem s223_0 {L : Nat} {xs : Nat → Int32} {d x : Nat} {M : qxM} {st : List Value} {ls : qxL} : Rs L xs (d) 223 0 ls st M x = Rs L xs (d) 223 1 ls (.int (nI 0) :: st) M x := Rs_next c223_0 rfl
theorem c223_1 : qx_code 223 1 = some (1, .istore_n 1, 2, 0, 0, 0) := by decide +kernel
theorem s223_1i {L : Nat} {xs : Nat → Int32} {d x : Nat} {M : qxM} {st : List Value} {a1 a2 : Option Value} {z : Int32} {y : Int32} : Rs L xs (d) 223 1 [some (.int y), a1, a2] (.int z :: st) M x = Rs L xs (d) 223 2 [some (.int y), some (.int z), a2] st M x := Rs_next c223_1 rfl
theorem s223_1r {L : Nat} {xs : Nat → Int32} {d x : Nat} {M : qxM} {st : List Value} {a1 a2 : Option Value} {z : Int32} {y : Nat} : Rs L xs (d) 223 1 [some (.ref y), a1, a2] (.int z :: st) M x = Rs L xs (d) 223 2 [some (.ref y), some (.int z), a2] st M x := Rs_next c223_1 rfl
theorem s223_1n {L : Nat} {xs : Nat → Int32} {d x : Nat} {M : qxM} {st : List Value} {a1 a2 : Option Value} {z : Int32} : Rs L xs (d) 223 1 [none, a1, a2] (.int z :: st) M x = Rs L xs (d) 223 2 [none, some (.int z), a2] st M x := Rs_next c223_1 rfl
theorem c223_2 : qx_code 223 2 = some (2, .iconst 0, 3, 0, 0, 0) := by decide +kernel
theorem s223_2 {L : Nat} {xs : Nat → Int32} {d x : Nat} {M : qxM} {st : List Value} {ls : qxL} : Rs L xs (d) 223 2 ls st M x = Rs L xs (d) 223 3 ls (.int (nI 0) :: st) M x := Rs_next c223_2 rfl
theorem c223_3 : qx_code 223 3 = some (3, .istore_n 2, 4, 0, 0, 0) := by decide +kernel
theorem s223_3i {L : Nat} {xs : Nat → Int32} {d x : Nat} {M : qxM} {st : List Value} {a0 a2 : Option Value} {z : Int32} {y : Int32} : Rs L xs (d) 223 3 [a0, some (.int y), a2] (.int z :: st) M x = Rs L xs (d) 223 4 [a0, some (.int y), some (.int z)] st M x := Rs_next c223_3 rfl
theorem s223_3r {L : Nat} {xs : Nat → Int32} {d x : Nat} {M : qxM} {st : List Value} {a0 a2 : Option Value} {z : Int32} {y : Nat} : Rs L xs (d) 223 3 [a0, some (.ref y), a2] (.int z :: st) M x = Rs L xs (d) 223 4 [a0, some (.ref y), some (.int z)] st M x := Rs_next c223_3 rfl
theorem s223_3n {L : Nat} {xs : Nat → Int32} {d x : Nat} {M : qxM} {st : List Value} {a0 a2 : Option Value} {z : Int32} : Rs L xs (d) 223 3 [a0, none, a2] (.int z :: st) M x = Rs L xs (d) 223 4 [a0, none, some (.int z)] st M x := Rs_next c223_3 rfl
theorem c223_4 : qx_code 223 4 = some (4, .iload_n 2, 5, 0, 0, 0) := by decide +kernel
theorem s223_4 {L : Nat} {xs : Nat → Int32} {d x : Nat} {M : qxM} {st : List Value} {a0 a1 : Option Value} {z : Int32} : Rs L xs (d) 223 4 [a0, a1, some (.int z)] st M x = Rs L xs (d) 223 5 [a0, a1, some (.int z)] (.int z :: st) M x := Rs_next c223_4 rfl
theorem c223_5 : qx_code 223 5 = some (5, .aload_n 0, 6, 0, 0, 0) := by decide +kernel
theorem s223_5 {L : Nat} {xs : Nat → Int32} {d x : Nat} {M : qxM} {st : List Value} {a1 a2 : Option Value} {z : Nat} : Rs L xs (d) 223 5 [some (.ref z), a1, a2] st M x = Rs L xs (d) 223 6 [some (.ref z), a1, a2] (.ref z :: st) M x := Rs_next c223_5 rfl
theorem c223_6 : qx_code 223 6 = some (6, .getfield 9, 9, 8, 1, 1546) := by decide +kernel
theorem s223_6 {L : Nat} {xs : Nat → Int32} {d x : Nat} {M : qxM} {st : List Value} {ls : qxL} {t : Nat} (hk : qx_kd t = 18) : Rs L xs (d) 223 6 ls (.ref t :: st) M x = Rs L xs (d) 223 9 ls (.ref (t + 1) :: st) M x := Rs_when (qx_kd_obj (k := 8) (by decide) hk) c223_6 rfl
theorem c223_9 : qx_code 223 9 = some (9, .iconst 0, 10, 0, 0, 0) := by decide +kernel
theorem s223_9 {L : Nat} {xs : Nat → Int32} {d x : Nat} {M : qxM} {st : List Value} {ls : qxL} : Rs L xs (d) 223 9 ls st M x = Rs L xs (d) 223 10 ls (.int (nI 0) :: st) M x := Rs_next c223_9 rfl
theorem c223_10 : qx_code 223 10 = some (10, .iaload, 11, 0, 0, 0) := by decide +kernel
theorem s223_10 {L : Nat} {xs : Nat → Int32} {d x : Nat} {M : qxM} {st : List Value} {ls : qxL} {t : Nat} {j : Int32} (hk : qx_kd t = 0) (hj : qx_ib j (qx_ln t) = true) : Rs L xs (d) 223 10 ls (.int j :: .ref t :: st) M x = Rs L xs (d) 223 11 ls (.int (M.1 t j.toNatClampNeg) :: st) M x := by
  have h1 := qx_kd_row (k := 0) (by decide) hk
  exact Rs_unless (qx_ib_not hj) c223_10 (by unfold qx_act; dsimp only; rw [h1]; rfl)
theorem c223_11 : qx_code 223 11 = some (11, .if_icmp .ge 31, 14, 42, 0, 0) := by decide +kernel
theorem s223_11 {L : Nat} {xs : Nat → Int32} {d x : Nat} {M : qxM} {st : List Value} {ls : qxL} {z y : Int32} : Rs L xs (d) 223 11 ls (.int y :: .int z :: st) M x = if y ≤ z then Rs L xs (d) 223 42 ls st M x else Rs L xs (d) 223 14 ls st M x := Rs_ite c223_11 rfl
theorem c223_14 : qx_code 223 14 = some (14, .iload_n 1, 15, 0, 0, 0) := by decide +kernel
theorem s223_14 {L : Nat} {xs : Nat → Int32} {d x : Nat} {M : qxM} {st : List Value} {a0 a2 : Option Value} {z : Int32} : Rs L xs (d) 223 14 [a0, some (.int z), a2] st M x = Rs L xs (d) 223 15 [a0, some (.int z), a2] (.int z :: st) M x := Rs_next c223_14 rfl
theorem c223_15 : qx_code 223 15 = some (15, .aload_n 0, 16, 0, 0, 0) := by decide +kernel
theorem s223_15 {L : Nat} {xs : Nat → Int32} {d x : Nat} {M : qxM} {st : List Value} {a1 a2 : Option Value} {z : Nat} : Rs L xs (d) 223 15 [some (.ref z), a1, a2] st M x = Rs L xs (d) 223 16 [some (.ref z), a1, a2] (.ref z :: st) M x := Rs_next c223_15 rfl
theorem c223_16 : qx_code 223 16 = some (16, .iload_n 2, 17, 0, 0, 0) := by decide +kernel
theorem s223_16 {L : Nat} {xs : Nat → Int32} {d x : Nat} {M : qxM} {st : List Value} {a0 a1 : Option Value} {z : Int32} : Rs L xs (d) 223 16 [a0, a1, some (.int z)] st M x = Rs L xs (d) 223 17 [a0, a1, some (.int z)] (.int z :: st) M x := Rs_next c223_16 rfl
theorem c223_17 : qx_code 223 17 = some (17, .invokevirtual 132, 20, 213, 2, 1737) := by decide +kernel
theorem s223_17 {L : Nat} {xs : Nat → Int32} {d x : Nat} {M : qxM} {st : List Value} {ls : qxL} {t : Nat} {z0 : Int32} (hk : qx_kd t = 18) (hs : st.length ≤ 4) : Rs L xs (d + 1) 223 17 ls (.int z0 :: .ref t :: st) M x = (Rs L xs d 213 0 [some (.ref t), some (.int z0)] [] M 0).bind (qx_kn L xs (d + 1) 223 17 20 213 ls st x) := by
  have h1 : qx_act L xs (qx_rt 223) (17, .invokevirtual 132, 20, 213, 2, 1737) ls (.int z0 :: .ref t :: st) M = if 2 ≤ (.int z0 :: .ref t :: st).length ∧ st.length ≤ 4 then some (.inr (.inr (.inr (213, [.ref t, .int z0], st)))) else none := rfl
  rw [if_pos ⟨by simp [List.length_cons]; try omega, hs⟩] at h1
  have h2 := qx_kd_obj (k := 8) (by decide) hk
  exact Rs_call c223_17 h1 (by rw [show qx_args 213 [.ref t, .int z0] = decide (qx_sh t = some (.inl 8)) from rfl]; exact decide_eq_true h2)
theorem c223_20 : qx_code 223 20 = some (20, .iconst (-1), 21, 0, 0, 0) := by decide +kernel
theorem s223_20 {L : Nat} {xs : Nat → Int32} {d x : Nat} {M : qxM} {st : List Value} {ls : qxL} : Rs L xs (d) 223 20 ls st M x = Rs L xs (d) 223 21 ls (.int (-1) :: st) M x := Rs_next c223_20 rfl
theorem c223_21 : qx_code 223 21 = some (21, .if_icmp .ne 7, 24, 28, 0, 0) := by decide +kernel
theorem s223_21 {L : Nat} {xs : Nat → Int32} {d x : Nat} {M : qxM} {st : List Value} {ls : qxL} {z y : Int32} : Rs L xs (d) 223 21 ls (.int y :: .int z :: st) M x = if z = y then Rs L xs (d) 223 24 ls st M x else Rs L xs (d) 223 28 ls st M x := Rs_ite c223_21 rfl
theorem c223_24 : qx_code 223 24 = some (24, .iconst 1, 25, 0, 0, 0) := by decide +kernel
theorem s223_24 {L : Nat} {xs : Nat → Int32} {d x : Nat} {M : qxM} {st : List Value} {ls : qxL} : Rs L xs (d) 223 24 ls st M x = Rs L xs (d) 223 25 ls (.int (nI 1) :: st) M x := Rs_next c223_24 rfl
theorem c223_25 : qx_code 223 25 = some (25, .goto 4, 28, 29, 0, 0) := by decide +kernel
theorem s223_25 {L : Nat} {xs : Nat → Int32} {d x : Nat} {M : qxM} {st : List Value} {ls : qxL} : Rs L xs (d) 223 25 ls st M x = Rs L xs (d) 223 29 ls st M x := Rs_next c223_25 rfl
theorem c223_28 : qx_code 223 28 = some (28, .iconst 0, 29, 0, 0, 0) := by decide +kernel
theorem s223_28 {L : Nat} {xs : Nat → Int32} {d x : Nat} {M : qxM} {st : List Value} {ls : qxL} : Rs L xs (d) 223 28 ls st M x = Rs L xs (d) 223 29 ls (.int (nI 0) :: st) M x := Rs_next c223_28 rfl
theorem c223_29 : qx_code 223 29 = some (29, .invokestatic 203, 32, 179, 1, 1785) := by decide +kernel
theorem s223_29 {L : Nat} {xs : Nat → Int32} {d x : Nat} {M : qxM} {st : List Value} {ls : qxL} {z0 : Int32} (hs : st.length ≤ 4) : Rs L xs (d + 1) 223 29 ls (.int z0 :: st) M x = (Rs L xs d 179 0 [some (.int z0)] [] M 0).bind (qx_kn L xs (d + 1) 223 29 32 179 ls st x) := by
  have h1 : qx_act L xs (qx_rt 223) (29, .invokestatic 203, 32, 179, 1, 1785) ls (.int z0 :: st) M = if 1 ≤ (.int z0 :: st).length ∧ st.length ≤ 4 then some (.inr (.inr (.inr (179, [.int z0], st)))) else none := rfl
  rw [if_pos ⟨by simp [List.length_cons]; try omega, hs⟩] at h1
  exact Rs_call c223_29 h1 rfl
theorem c223_32 : qx_code 223 32 = some (32, .iload_n 2, 33, 0, 0, 0) := by decide +kernel
theorem s223_32 {L : Nat} {xs : Nat → Int32} {d x : Nat} {M : qxM} {st : List Value} {a0 a1 : Option Value} {z : Int32} : Rs L xs (d) 223 32 [a0, a1, some (.int z)] st M x = Rs L xs (d) 223 33 [a0, a1, some (.int z)] (.int z :: st) M x := Rs_next c223_32 rfl
theorem c223_33 : qx_code 223 33 = some (33, .ishl, 34, 0, 0, 0) := by decide +kernel
theorem s223_33 {L : Nat} {xs : Nat → Int32} {d x : Nat} {M : qxM} {st : List Value} {ls : qxL} {z y : Int32} : Rs L xs (d) 223 33 ls (.int y :: .int z :: st) M x = Rs L xs (d) 223 34 ls (.int (z <<< (y &&& 31)) :: st) M x := Rs_next c223_33 rfl
theorem c223_34 : qx_code 223 34 = some (34, .ior, 35, 0, 0, 0) := by decide +kernel
theorem s223_34 {L : Nat} {xs : Nat → Int32} {d x : Nat} {M : qxM} {st : List Value} {ls : qxL} {z y : Int32} : Rs L xs (d) 223 34 ls (.int y :: .int z :: st) M x = Rs L xs (d) 223 35 ls (.int (z ||| y) :: st) M x := Rs_next c223_34 rfl
theorem c223_35 : qx_code 223 35 = some (35, .istore_n 1, 36, 0, 0, 0) := by decide +kernel
theorem s223_35i {L : Nat} {xs : Nat → Int32} {d x : Nat} {M : qxM} {st : List Value} {a1 a2 : Option Value} {z : Int32} {y : Int32} : Rs L xs (d) 223 35 [some (.int y), a1, a2] (.int z :: st) M x = Rs L xs (d) 223 36 [some (.int y), some (.int z), a2] st M x := Rs_next c223_35 rfl
theorem s223_35r {L : Nat} {xs : Nat → Int32} {d x : Nat} {M : qxM} {st : List Value} {a1 a2 : Option Value} {z : Int32} {y : Nat} : Rs L xs (d) 223 35 [some (.ref y), a1, a2] (.int z :: st) M x = Rs L xs (d) 223 36 [some (.ref y), some (.int z), a2] st M x := Rs_next c223_35 rfl
theorem s223_35n {L : Nat} {xs : Nat → Int32} {d x : Nat} {M : qxM} {st : List Value} {a1 a2 : Option Value} {z : Int32} : Rs L xs (d) 223 35 [none, a1, a2] (.int z :: st) M x = Rs L xs (d) 223 36 [none, some (.int z), a2] st M x := Rs_next c223_35 rfl
theorem c223_36 : qx_code 223 36 = some (36, .iinc 2 1, 39, 0, 0, 0) := by decide +kernel
theorem s223_36i {L : Nat} {xs : Nat → Int32} {d x : Nat} {M : qxM} {st : List Value} {a0 : Option Value} {z : Int32} {y : Int32} : Rs L xs (d) 223 36 [a0, some (.int y), some (.int z)] st M x = Rs L xs (d) 223 39 [a0, some (.int y), some (.int (z + (nI 1)))] st M x := Rs_next c223_36 rfl
theorem s223_36r {L : Nat} {xs : Nat → Int32} {d x : Nat} {M : qxM} {st : List Value} {a0 : Option Value} {z : Int32} {y : Nat} : Rs L xs (d) 223 36 [a0, some (.ref y), some (.int z)] st M x = Rs L xs (d) 223 39 [a0, some (.ref y), some (.int (z + (nI 1)))] st M x := Rs_next c223_36 rfl
theorem s223_36n {L : Nat} {xs : Nat → Int32} {d x : Nat} {M : qxM} {st : List Value} {a0 : Option Value} {z : Int32} : Rs L xs (d) 223 36 [a0, none, some (.int z)] st M x = Rs L xs (d) 223 39 [a0, none, some (.int (z + (nI 1)))] st M x := Rs_next c223_36 rfl
theorem c223_39 : qx_code 223 39 = some (39, .goto (-35), 42, 4, 0, 0) := by decide +kernel
theorem s223_39 {L : Nat} {xs : Nat → Int32} {d x : Nat} {M : qxM} {st : List Value} {ls : qxL} : Rs L xs (d) 223 39 ls st M x = Rs L xs (d) 223 4 ls st M x := Rs_next c223_39 rfl
theorem c223_42 : qx_code 223 42 = some (42, .iload_n 1, 43, 0, 0, 0) := by decide +kernel
theorem s223_42 {L : Nat} {xs : Nat → Int32} {d x : Nat} {M : qxM} {st : List Value} {a0 a2 : Option Value} {z : Int32} : Rs L xs (d) 223 42 [a0, some (.int z), a2] st M x = Rs L xs (d) 223 43 [a0, some (.int z), a2] (.int z :: st) M x := Rs_next c223_42 rfl
theorem c223_43 : qx_code 223 43 = some (43, .ireturn, 44, 0, 0, 0) := by decide +kernel
theorem s223_43 {L : Nat} {xs : Nat → Int32} {d x : Nat} {M : qxM} {ls : qxL} {z : Int32} : Rs L xs (d) 223 43 ls [.int z] M x = some (.inl (some (.int z)), M, x) := Rs_ret c223_43 rfl
theorem c224_0 : qx_code 224 0 = some (0, .aload_n 0, 1, 0, 0, 0) := by decide +kernel
theorem s224_0 {L : Nat} {xs : Nat → Int32} {d x : Nat} {M : qxM} {st : List Value} {z : Nat} : Rs L xs (d) 224 0 [some (.ref z)] st M x = Rs L xs (d) 224 1 [some (.ref z)] (.ref z :: st) M x := Rs_next c224_0 rfl
theorem c224_1 : qx_code 224 1 = some (1, .getfield 9, 4, 8, 1, 1546) := by decide +kernel
theorem s224_1 {L : Nat} {xs : Nat → Int32} {d x : Nat} {M : qxM} {st : List Value} {ls : qxL} {t : Nat} (hk : qx_kd t = 18) : Rs L xs (d) 224 1 ls (.ref t :: st) M x = Rs L xs (d) 224 4 ls (.ref (t + 1) :: st) M x := Rs_when (qx_kd_obj (k := 8) (by decide) hk) c224_1 rfl
theorem c224_4 : qx_code 224 4 = some (4, .iconst 0, 5, 0, 0, 0) := by decide +kernel
theorem s224_4 {L : Nat} {xs : Nat → Int32} {d x : Nat} {M : qxM} {st : List Value} {ls : qxL} : Rs L xs (d) 224 4 ls st M x = Rs L xs (d) 224 5 ls (.int (nI 0) :: st) M x := Rs_next c224_4 rfl
theorem c224_5 : qx_code 224 5 = some (5, .iaload, 6, 0, 0, 0) := by decide +kernel
theorem s224_5 {L : Nat} {xs : Nat → Int32} {d x : Nat} {M : qxM} {st : List Value} {ls : qxL} {t : Nat} {j : Int32} (hk : qx_kd t = 0) (hj : qx_ib j (qx_ln t) = true) : Rs L xs (d) 224 5 ls (.int j :: .ref t :: st) M x = Rs L xs (d) 224 6 ls (.int (M.1 t j.toNatClampNeg) :: st) M x := by
  have h1 := qx_kd_row (k := 0) (by decide) hk
  exact Rs_unless (qx_ib_not hj) c224_5 (by unfold qx_act; dsimp only; rw [h1]; rfl)
theorem c224_6 : qx_code 224 6 = some (6, .aload_n 0, 7, 0, 0, 0) := by decide +kernel
theorem s224_6 {L : Nat} {xs : Nat → Int32} {d x : Nat} {M : qxM} {st : List Value} {z : Nat} : Rs L xs (d) 224 6 [some (.ref z)] st M x = Rs L xs (d) 224 7 [some (.ref z)] (.ref z :: st) M x := Rs_next c224_6 rfl
theorem c224_7 : qx_code 224 7 = some (7, .invokevirtual 213, 10, 223, 1, 1795) := by decide +kernel
theorem s224_7 {L : Nat} {xs : Nat → Int32} {d x : Nat} {M : qxM} {st : List Value} {ls : qxL} {t : Nat} (hk : qx_kd t = 18) (hs : st.length ≤ 4) : Rs L xs (d + 1) 224 7 ls (.ref t :: st) M x = (Rs L xs d 223 0 [some (.ref t), none, none] [] M 0).bind (qx_kn L xs (d + 1) 224 7 10 223 ls st x) := by
  have h1 : qx_act L xs (qx_rt 224) (7, .invokevirtual 213, 10, 223, 1, 1795) ls (.ref t :: st) M = if 1 ≤ (.ref t :: st).length ∧ st.length ≤ 4 then some (.inr (.inr (.inr (223, [.ref t], st)))) else none := rfl
  rw [if_pos ⟨by simp [List.length_cons]; try omega, hs⟩] at h1
  have h2 := qx_kd_obj (k := 8) (by decide) hk
  exact Rs_call c224_7 h1 (by rw [show qx_args 223 [.ref t] = decide (qx_sh t = some (.inl 8)) from rfl]; exact decide_eq_true h2)
theorem c224_10 : qx_code 224 10 = some (10, .invokestatic 194, 13, 209, 1, 1788) := by decide +kernel
theorem s224_10 {L : Nat} {xs : Nat → Int32} {d x : Nat} {M : qxM} {st : List Value} {ls : qxL} {z0 : Int32} (hs : st.length ≤ 4) : Rs L xs (d + 1) 224 10 ls (.int z0 :: st) M x = (Rs L xs d 209 0 [some (.int z0), none, none] [] M 0).bind (qx_kn L xs (d + 1) 224 10 13 209 ls st x) := by
  have h1 : qx_act L xs (qx_rt 224) (10, .invokestatic 194, 13, 209, 1, 1788) ls (.int z0 :: st) M = if 1 ≤ (.int z0 :: st).length ∧ st.length ≤ 4 then some (.inr (.inr (.inr (209, [.int z0], st)))) else none := rfl
  rw [if_pos ⟨by simp [List.length_cons]; try omega, hs⟩] at h1
  exact Rs_call c224_10 h1 rfl
theorem c224_13 : qx_code 224 13 = some (13, .isub, 14, 0, 0, 0) := by decide +kernel
theorem s224_13 {L : Nat} {xs : Nat → Int32} {d x : Nat} {M : qxM} {st : List Value} {ls : qxL} {z y : Int32} : Rs L xs (d) 224 13 ls (.int y :: .int z :: st) M x = Rs L xs (d) 224 14 ls (.int (z - y) :: st) M x := Rs_next c224_13 rfl
theorem c224_14 : qx_code 224 14 = some (14, .iconst 2, 15, 0, 0, 0) := by decide +kernel
theorem s224_14 {L : Nat} {xs : Nat → Int32} {d x : Nat} {M : qxM} {st : List Value} {ls : qxL} : Rs L xs (d) 224 14 ls st M x = Rs L xs (d) 224 15 ls (.int (nI 2) :: st) M x := Rs_next c224_14 rfl
theorem c224_15 : qx_code 224 15 = some (15, .idiv, 16, 0, 0, 0) := by decide +kernel
theorem s224_15 {L : Nat} {xs : Nat → Int32} {d x : Nat} {M : qxM} {st : List Value} {ls : qxL} {z y : Int32} (h : ¬ y = 0) : Rs L xs (d) 224 15 ls (.int y :: .int z :: st) M x = Rs L xs (d) 224 16 ls (.int (z / y) :: st) M x := Rs_unless h c224_15 rfl
theorem c224_16 : qx_code 224 16 = some (16, .ireturn, 17, 0, 0, 0) := by decide +kernel
theorem s224_16 {L : Nat} {xs : Nat → Int32} {d x : Nat} {M : qxM} {ls : qxL} {z : Int32} : Rs L xs (d) 224 16 ls [.int z] M x = some (.inl (some (.int z)), M, x) := Rs_ret c224_16 rfl
theorem c225_0 : qx_code 225 0 = some (0, .aload_n 0, 1, 0, 0, 0) := by decide +kernel
theorem s225_0 {L : Nat} {xs : Nat → Int32} {d x : Nat} {M : qxM} {st : List Value} {a1 : Option Value} {z : Nat} : Rs L xs (d) 225 0 [some (.ref z), a1] st M x = Rs L xs (d) 225 1 [some (.ref z), a1] (.ref z :: st) M x := Rs_next c225_0 rfl
theorem c225_1 : qx_code 225 1 = some (1, .aload_n 0, 2, 0, 0, 0) := by decide +kernel
theorem s225_1 {L : Nat} {xs : Nat → Int32} {d x : Nat} {M : qxM} {st : List Value} {a1 : Option Value} {z : Nat} : Rs L xs (d) 225 1 [some (.ref z), a1] st M x = Rs L xs (d) 225 2 [some (.ref z), a1] (.ref z :: st) M x := Rs_next c225_1 rfl
theorem c225_2 : qx_code 225 2 = some (2, .getfield 187, 5, 8, 6, 1551) := by decide +kernel
theorem s225_2 {L : Nat} {xs : Nat → Int32} {d x : Nat} {M : qxM} {st : List Value} {ls : qxL} {t : Nat} (hk : qx_kd t = 18) : Rs L xs (d) 225 2 ls (.ref t :: st) M x = Rs L xs (d) 225 5 ls (.int (M.1 t 6) :: st) M x := Rs_when (qx_kd_obj (k := 8) (by decide) hk) c225_2 rfl
theorem c225_5 : qx_code 225 5 = some (5, .iload_n 1, 6, 0, 0, 0) := by decide +kernel
theorem s225_5 {L : Nat} {xs : Nat → Int32} {d x : Nat} {M : qxM} {st : List Value} {a0 : Option Value} {z : Int32} : Rs L xs (d) 225 5 [a0, some (.int z)] st M x = Rs L xs (d) 225 6 [a0, some (.int z)] (.int z :: st) M x := Rs_next c225_5 rfl
theorem c225_6 : qx_code 225 6 = some (6, .iconst 0, 7, 0, 0, 0) := by decide +kernel
theorem s225_6 {L : Nat} {xs : Nat → Int32} {d x : Nat} {M : qxM} {st : List Value} {ls : qxL} : Rs L xs (d) 225 6 ls st M x = Rs L xs (d) 225 7 ls (.int (nI 0) :: st) M x := Rs_next c225_6 rfl
theorem c225_7 : qx_code 225 7 = some (7, .bipush 10, 9, 0, 0, 0) := by decide +kernel
theorem s225_7 {L : Nat} {xs : Nat → Int32} {d x : Nat} {M : qxM} {st : List Value} {ls : qxL} : Rs L xs (d) 225 7 ls st M x = Rs L xs (d) 225 9 ls (.int (nI 10) :: st) M x := Rs_next c225_7 rfl
theorem c225_9 : qx_code 225 9 = some (9, .invokestatic 69, 12, 178, 3, 1641) := by decide +kernel
theorem s225_9 {L : Nat} {xs : Nat → Int32} {d x : Nat} {M : qxM} {st : List Value} {ls : qxL} {z0 : Int32} {z1 : Int32} {z2 : Int32} (hs : st.length ≤ 4) : Rs L xs (d + 1) 225 9 ls (.int z2 :: .int z1 :: .int z0 :: st) M x = (Rs L xs d 178 0 [some (.int z0), some (.int z1), some (.int z2)] [] M 0).bind (qx_kn L xs (d + 1) 225 9 12 178 ls st x) := by
  have h1 : qx_act L xs (qx_rt 225) (9, .invokestatic 69, 12, 178, 3, 1641) ls (.int z2 :: .int z1 :: .int z0 :: st) M = if 3 ≤ (.int z2 :: .int z1 :: .int z0 :: st).length ∧ st.length ≤ 4 then some (.inr (.inr (.inr (178, [.int z0, .int z1, .int z2], st)))) else none := rfl
  rw [if_pos ⟨by simp [List.length_cons]; try omega, hs⟩] at h1
  exact Rs_call c225_9 h1 rfl
theorem c225_12 : qx_code 225 12 = some (12, .invokevirtual 216, 15, 181, 3, 1773) := by decide +kernel
theorem s225_12 {L : Nat} {xs : Nat → Int32} {d x : Nat} {M : qxM} {st : List Value} {ls : qxL} {t : Nat} {z0 : Int32} {z1 : Int32} (hk : qx_kd t = 18) (hs : st.length ≤ 4) : Rs L xs (d + 1) 225 12 ls (.int z1 :: .int z0 :: .ref t :: st) M x = (Rs L xs d 181 0 [some (.ref t), some (.int z0), some (.int z1)] [] M 0).bind (qx_kn L xs (d + 1) 225 12 15 181 ls st x) := by
  have h1 : qx_act L xs (qx_rt 225) (12, .invokevirtual 216, 15, 181, 3, 1773) ls (.int z1 :: .int z0 :: .ref t :: st) M = if 3 ≤ (.int z1 :: .int z0 :: .ref t :: st).length ∧ st.length ≤ 4 then some (.inr (.inr (.inr (181, [.ref t, .int z0, .int z1], st)))) else none := rfl
  rw [if_pos ⟨by simp [List.length_cons]; try omega, hs⟩] at h1
  have h2 := qx_kd_obj (k := 8) (by decide) hk
  exact Rs_call c225_12 h1 (by rw [show qx_args 181 [.ref t, .int z0, .int z1] = decide (qx_sh t = some (.inl 8)) from rfl]; exact decide_eq_true h2)
theorem c225_15 : qx_code 225 15 = some (15, .ifCond .ne 5, 18, 20, 0, 0) := by decide +kernel
theorem s225_15 {L : Nat} {xs : Nat → Int32} {d x : Nat} {M : qxM} {st : List Value} {ls : qxL} {z : Int32} : Rs L xs (d) 225 15 ls (.int z :: st) M x = if z = 0 then Rs L xs (d) 225 18 ls st M x else Rs L xs (d) 225 20 ls st M x := Rs_ite c225_15 rfl
theorem c225_18 : qx_code 225 18 = some (18, .iconst 0, 19, 0, 0, 0) := by decide +kernel
theorem s225_18 {L : Nat} {xs : Nat → Int32} {d x : Nat} {M : qxM} {st : List Value} {ls : qxL} : Rs L xs (d) 225 18 ls st M x = Rs L xs (d) 225 19 ls (.int (nI 0) :: st) M x := Rs_next c225_18 rfl
theorem c225_19 : qx_code 225 19 = some (19, .ireturn, 20, 0, 0, 0) := by decide +kernel
theorem s225_19 {L : Nat} {xs : Nat → Int32} {d x : Nat} {M : qxM} {ls : qxL} {z : Int32} : Rs L xs (d) 225 19 ls [.int z] M x = some (.inl (some (.int z)), M, x) := Rs_ret c225_19 rfl
theorem c225_20 : qx_code 225 20 = some (20, .iload_n 1, 21, 0, 0, 0) := by decide +kernel
theorem s225_20 {L : Nat} {xs : Nat → Int32} {d x : Nat} {M : qxM} {st : List Value} {a0 : Option Value} {z : Int32} : Rs L xs (d) 225 20 [a0, some (.int z)] st M x = Rs L xs (d) 225 21 [a0, some (.int z)] (.int z :: st) M x := Rs_next c225_20 rfl
theorem c225_21 : qx_code 225 21 = some (21, .tableswitch 125 0 9 #[55, 62, 68, 74, 79, 87, 94, 104, 111, 118], 76, 0, 0, 0) := by decide +kernel
theorem s225_21_0 {L : Nat} {xs : Nat → Int32} {d x : Nat} {M : qxM} {st : List Value} {ls : qxL} : Rs L xs (d) 225 21 ls (.int (nI 0) :: st) M x = Rs L xs (d) 225 76 ls st M x := Rs_next c225_21 rfl
theorem s225_21_1 {L : Nat} {xs : Nat → Int32} {d x : Nat} {M : qxM} {st : List Value} {ls : qxL} : Rs L xs (d) 225 21 ls (.int (nI 1) :: st) M x = Rs L xs (d) 225 83 ls st M x := Rs_next c225_21 rfl
theorem s225_21_2 {L : Nat} {xs : Nat → Int32} {d x : Nat} {M : qxM} {st : List Value} {ls : qxL} : Rs L xs (d) 225 21 ls (.int (nI 2) :: st) M x = Rs L xs (d) 225 89 ls st M x := Rs_next c225_21 rfl
theorem s225_21_3 {L : Nat} {xs : Nat → Int32} {d x : Nat} {M : qxM} {st : List Value} {ls : qxL} : Rs L xs (d) 225 21 ls (.int (nI 3) :: st) M x = Rs L xs (d) 225 95 ls st M x := Rs_next c225_21 rfl
theorem s225_21_4 {L : Nat} {xs : Nat → Int32} {d x : Nat} {M : qxM} {st : List Value} {ls : qxL} : Rs L xs (d) 225 21 ls (.int (nI 4) :: st) M x = Rs L xs (d) 225 100 ls st M x := Rs_next c225_21 rfl
theorem s225_21_5 {L : Nat} {xs : Nat → Int32} {d x : Nat} {M : qxM} {st : List Value} {ls : qxL} : Rs L xs (d) 225 21 ls (.int (nI 5) :: st) M x = Rs L xs (d) 225 108 ls st M x := Rs_next c225_21 rfl
theorem s225_21_6 {L : Nat} {xs : Nat → Int32} {d x : Nat} {M : qxM} {st : List Value} {ls : qxL} : Rs L xs (d) 225 21 ls (.int (nI 6) :: st) M x = Rs L xs (d) 225 115 ls st M x := Rs_next c225_21 rfl
theorem s225_21_7 {L : Nat} {xs : Nat → Int32} {d x : Nat} {M : qxM} {st : List Value} {ls : qxL} : Rs L xs (d) 225 21 ls (.int (nI 7) :: st) M x = Rs L xs (d) 225 125 ls st M x := Rs_next c225_21 rfl
theorem s225_21_8 {L : Nat} {xs : Nat → Int32} {d x : Nat} {M : qxM} {st : List Value} {ls : qxL} : Rs L xs (d) 225 21 ls (.int (nI 8) :: st) M x = Rs L xs (d) 225 132 ls st M x := Rs_next c225_21 rfl
theorem s225_21_9 {L : Nat} {xs : Nat → Int32} {d x : Nat} {M : qxM} {st : List Value} {ls : qxL} : Rs L xs (d) 225 21 ls (.int (nI 9) :: st) M x = Rs L xs (d) 225 139 ls st M x := Rs_next c225_21 rfl
theorem s225_21_10 {L : Nat} {xs : Nat → Int32} {d x : Nat} {M : qxM} {st : List Value} {ls : qxL} : Rs L xs (d) 225 21 ls (.int (nI 10) :: st) M x = Rs L xs (d) 225 146 ls st M x := Rs_next c225_21 rfl
theorem c225_76 : qx_code 225 76 = some (76, .aload_n 0, 77, 0, 0, 0) := by decide +kernel
theorem s225_76 {L : Nat} {xs : Nat → Int32} {d x : Nat} {M : qxM} {st : List Value} {a1 : Option Value} {z : Nat} : Rs L xs (d) 225 76 [some (.ref z), a1] st M x = Rs L xs (d) 225 77 [some (.ref z), a1] (.ref z :: st) M x := Rs_next c225_76 rfl
theorem c225_77 : qx_code 225 77 = some (77, .getfield 9, 80, 8, 1, 1546) := by decide +kernel
theorem s225_77 {L : Nat} {xs : Nat → Int32} {d x : Nat} {M : qxM} {st : List Value} {ls : qxL} {t : Nat} (hk : qx_kd t = 18) : Rs L xs (d) 225 77 ls (.ref t :: st) M x = Rs L xs (d) 225 80 ls (.ref (t + 1) :: st) M x := Rs_when (qx_kd_obj (k := 8) (by decide) hk) c225_77 rfl
theorem c225_80 : qx_code 225 80 = some (80, .iconst 0, 81, 0, 0, 0) := by decide +kernel
theorem s225_80 {L : Nat} {xs : Nat → Int32} {d x : Nat} {M : qxM} {st : List Value} {ls : qxL} : Rs L xs (d) 225 80 ls st M x = Rs L xs (d) 225 81 ls (.int (nI 0) :: st) M x := Rs_next c225_80 rfl
theorem c225_81 : qx_code 225 81 = some (81, .iaload, 82, 0, 0, 0) := by decide +kernel
theorem s225_81 {L : Nat} {xs : Nat → Int32} {d x : Nat} {M : qxM} {st : List Value} {ls : qxL} {t : Nat} {j : Int32} (hk : qx_kd t = 0) (hj : qx_ib j (qx_ln t) = true) : Rs L xs (d) 225 81 ls (.int j :: .ref t :: st) M x = Rs L xs (d) 225 82 ls (.int (M.1 t j.toNatClampNeg) :: st) M x := by
  have h1 := qx_kd_row (k := 0) (by decide) hk
  exact Rs_unless (qx_ib_not hj) c225_81 (by unfold qx_act; dsimp only; rw [h1]; rfl)
theorem c225_82 : qx_code 225 82 = some (82, .ireturn, 83, 0, 0, 0) := by decide +kernel
theorem s225_82 {L : Nat} {xs : Nat → Int32} {d x : Nat} {M : qxM} {ls : qxL} {z : Int32} : Rs L xs (d) 225 82 ls [.int z] M x = some (.inl (some (.int z)), M, x) := Rs_ret c225_82 rfl
theorem c225_83 : qx_code 225 83 = some (83, .aload_n 0, 84, 0, 0, 0) := by decide +kernel
theorem s225_83 {L : Nat} {xs : Nat → Int32} {d x : Nat} {M : qxM} {st : List Value} {a1 : Option Value} {z : Nat} : Rs L xs (d) 225 83 [some (.ref z), a1] st M x = Rs L xs (d) 225 84 [some (.ref z), a1] (.ref z :: st) M x := Rs_next c225_83 rfl
theorem c225_84 : qx_code 225 84 = some (84, .iconst 0, 85, 0, 0, 0) := by decide +kernel
theorem s225_84 {L : Nat} {xs : Nat → Int32} {d x : Nat} {M : qxM} {st : List Value} {ls : qxL} : Rs L xs (d) 225 84 ls st M x = Rs L xs (d) 225 85 ls (.int (nI 0) :: st) M x := Rs_next c225_84 rfl
theorem c225_85 : qx_code 225 85 = some (85, .invokevirtual 220, 88, 222, 2, 1777) := by decide +kernel
theorem s225_85 {L : Nat} {xs : Nat → Int32} {d x : Nat} {M : qxM} {st : List Value} {ls : qxL} {t : Nat} {z0 : Int32} (hk : qx_kd t = 18) (hs : st.length ≤ 4) : Rs L xs (d + 1) 225 85 ls (.int z0 :: .ref t :: st) M x = (Rs L xs d 222 0 [some (.ref t), some (.int z0), none, none] [] M 0).bind (qx_kn L xs (d + 1) 225 85 88 222 ls st x) := by
  have h1 : qx_act L xs (qx_rt 225) (85, .invokevirtual 220, 88, 222, 2, 1777) ls (.int z0 :: .ref t :: st) M = if 2 ≤ (.int z0 :: .ref t :: st).length ∧ st.length ≤ 4 then some (.inr (.inr (.inr (222, [.ref t, .int z0], st)))) else none := rfl
  rw [if_pos ⟨by simp [List.length_cons]; try omega, hs⟩] at h1
  have h2 := qx_kd_obj (k := 8) (by decide) hk
  exact Rs_call c225_85 h1 (by rw [show qx_args 222 [.ref t, .int z0] = decide (qx_sh t = some (.inl 8)) from rfl]; exact decide_eq_true h2)
theorem c225_88 : qx_code 225 88 = some (88, .ireturn, 89, 0, 0, 0) := by decide +kernel
theorem s225_88 {L : Nat} {xs : Nat → Int32} {d x : Nat} {M : qxM} {ls : qxL} {z : Int32} : Rs L xs (d) 225 88 ls [.int z] M x = some (.inl (some (.int z)), M, x) := Rs_ret c225_88 rfl
theorem c225_89 : qx_code 225 89 = some (89, .aload_n 0, 90, 0, 0, 0) := by decide +kernel
theorem s225_89 {L : Nat} {xs : Nat → Int32} {d x : Nat} {M : qxM} {st : List Value} {a1 : Option Value} {z : Nat} : Rs L xs (d) 225 89 [some (.ref z), a1] st M x = Rs L xs (d) 225 90 [some (.ref z), a1] (.ref z :: st) M x := Rs_next c225_89 rfl
theorem c225_90 : qx_code 225 90 = some (90, .iconst 1, 91, 0, 0, 0) := by decide +kernel
theorem s225_90 {L : Nat} {xs : Nat → Int32} {d x : Nat} {M : qxM} {st : List Value} {ls : qxL} : Rs L xs (d) 225 90 ls st M x = Rs L xs (d) 225 91 ls (.int (nI 1) :: st) M x := Rs_next c225_90 rfl
theorem c225_91 : qx_code 225 91 = some (91, .invokevirtual 220, 94, 222, 2, 1777) := by decide +kernel
theorem s225_91 {L : Nat} {xs : Nat → Int32} {d x : Nat} {M : qxM} {st : List Value} {ls : qxL} {t : Nat} {z0 : Int32} (hk : qx_kd t = 18) (hs : st.length ≤ 4) : Rs L xs (d + 1) 225 91 ls (.int z0 :: .ref t :: st) M x = (Rs L xs d 222 0 [some (.ref t), some (.int z0), none, none] [] M 0).bind (qx_kn L xs (d + 1) 225 91 94 222 ls st x) := by
  have h1 : qx_act L xs (qx_rt 225) (91, .invokevirtual 220, 94, 222, 2, 1777) ls (.int z0 :: .ref t :: st) M = if 2 ≤ (.int z0 :: .ref t :: st).length ∧ st.length ≤ 4 then some (.inr (.inr (.inr (222, [.ref t, .int z0], st)))) else none := rfl
  rw [if_pos ⟨by simp [List.length_cons]; try omega, hs⟩] at h1
  have h2 := qx_kd_obj (k := 8) (by decide) hk
  exact Rs_call c225_91 h1 (by rw [show qx_args 222 [.ref t, .int z0] = decide (qx_sh t = some (.inl 8)) from rfl]; exact decide_eq_true h2)
theorem c225_94 : qx_code 225 94 = some (94, .ireturn, 95, 0, 0, 0) := by decide +kernel
theorem s225_94 {L : Nat} {xs : Nat → Int32} {d x : Nat} {M : qxM} {ls : qxL} {z : Int32} : Rs L xs (d) 225 94 ls [.int z] M x = some (.inl (some (.int z)), M, x) := Rs_ret c225_94 rfl
theorem c225_95 : qx_code 225 95 = some (95, .aload_n 0, 96, 0, 0, 0) := by decide +kernel
theorem s225_95 {L : Nat} {xs : Nat → Int32} {d x : Nat} {M : qxM} {st : List Value} {a1 : Option Value} {z : Nat} : Rs L xs (d) 225 95 [some (.ref z), a1] st M x = Rs L xs (d) 225 96 [some (.ref z), a1] (.ref z :: st) M x := Rs_next c225_95 rfl
theorem c225_96 : qx_code 225 96 = some (96, .invokevirtual 223, 99, 224, 1, 1791) := by decide +kernel
theorem s225_96 {L : Nat} {xs : Nat → Int32} {d x : Nat} {M : qxM} {st : List Value} {ls : qxL} {t : Nat} (hk : qx_kd t = 18) (hs : st.length ≤ 4) : Rs L xs (d + 1) 225 96 ls (.ref t :: st) M x = (Rs L xs d 224 0 [some (.ref t)] [] M 0).bind (qx_kn L xs (d + 1) 225 96 99 224 ls st x) := by
  have h1 : qx_act L xs (qx_rt 225) (96, .invokevirtual 223, 99, 224, 1, 1791) ls (.ref t :: st) M = if 1 ≤ (.ref t :: st).length ∧ st.length ≤ 4 then some (.inr (.inr (.inr (224, [.ref t], st)))) else none := rfl
  rw [if_pos ⟨by simp [List.length_cons]; try omega, hs⟩] at h1
  have h2 := qx_kd_obj (k := 8) (by decide) hk
  exact Rs_call c225_96 h1 (by rw [show qx_args 224 [.ref t] = decide (qx_sh t = some (.inl 8)) from rfl]; exact decide_eq_true h2)
theorem c225_99 : qx_code 225 99 = some (99, .ireturn, 100, 0, 0, 0) := by decide +kernel
theorem s225_99 {L : Nat} {xs : Nat → Int32} {d x : Nat} {M : qxM} {ls : qxL} {z : Int32} : Rs L xs (d) 225 99 ls [.int z] M x = some (.inl (some (.int z)), M, x) := Rs_ret c225_99 rfl
theorem c225_100 : qx_code 225 100 = some (100, .aload_n 0, 101, 0, 0, 0) := by decide +kernel
theorem s225_100 {L : Nat} {xs : Nat → Int32} {d x : Nat} {M : qxM} {st : List Value} {a1 : Option Value} {z : Nat} : Rs L xs (d) 225 100 [some (.ref z), a1] st M x = Rs L xs (d) 225 101 [some (.ref z), a1] (.ref z :: st) M x := Rs_next c225_100 rfl
theorem c225_101 : qx_code 225 101 = some (101, .invokevirtual 213, 104, 223, 1, 1795) := by decide +kernel
theorem s225_101 {L : Nat} {xs : Nat → Int32} {d x : Nat} {M : qxM} {st : List Value} {ls : qxL} {t : Nat} (hk : qx_kd t = 18) (hs : st.length ≤ 4) : Rs L xs (d + 1) 225 101 ls (.ref t :: st) M x = (Rs L xs d 223 0 [some (.ref t), none, none] [] M 0).bind (qx_kn L xs (d + 1) 225 101 104 223 ls st x) := by
  have h1 : qx_act L xs (qx_rt 225) (101, .invokevirtual 213, 104, 223, 1, 1795) ls (.ref t :: st) M = if 1 ≤ (.ref t :: st).length ∧ st.length ≤ 4 then some (.inr (.inr (.inr (223, [.ref t], st)))) else none := rfl
  rw [if_pos ⟨by simp [List.length_cons]; try omega, hs⟩] at h1
  have h2 := qx_kd_obj (k := 8) (by decide) hk
  exact Rs_call c225_101 h1 (by rw [show qx_args 223 [.ref t] = decide (qx_sh t = some (.inl 8)) from rfl]; exact decide_eq_true h2)
theorem c225_104 : qx_code 225 104 = some (104, .invokestatic 194, 107, 209, 1, 1788) := by decide +kernel
theorem s225_104 {L : Nat} {xs : Nat → Int32} {d x : Nat} {M : qxM} {st : List Value} {ls : qxL} {z0 : Int32} (hs : st.length ≤ 4) : Rs L xs (d + 1) 225 104 ls (.int z0 :: st) M x = (Rs L xs d 209 0 [some (.int z0), none, none] [] M 0).bind (qx_kn L xs (d + 1) 225 104 107 209 ls st x) := by
  have h1 : qx_act L xs (qx_rt 225) (104, .invokestatic 194, 107, 209, 1, 1788) ls (.int z0 :: st) M = if 1 ≤ (.int z0 :: st).length ∧ st.length ≤ 4 then some (.inr (.inr (.inr (209, [.int z0], st)))) else none := rfl
  rw [if_pos ⟨by simp [List.length_cons]; try omega, hs⟩] at h1
  exact Rs_call c225_104 h1 rfl
theorem c225_107 : qx_code 225 107 = some (107, .ireturn, 108, 0, 0, 0) := by decide +kernel
theorem s225_107 {L : Nat} {xs : Nat → Int32} {d x : Nat} {M : qxM} {ls : qxL} {z : Int32} : Rs L xs (d) 225 107 ls [.int z] M x = some (.inl (some (.int z)), M, x) := Rs_ret c225_107 rfl
theorem c225_108 : qx_code 225 108 = some (108, .aload_n 0, 109, 0, 0, 0) := by decide +kernel
theorem s225_108 {L : Nat} {xs : Nat → Int32} {d x : Nat} {M : qxM} {st : List Value} {a1 : Option Value} {z : Nat} : Rs L xs (d) 225 108 [some (.ref z), a1] st M x = Rs L xs (d) 225 109 [some (.ref z), a1] (.ref z :: st) M x := Rs_next c225_108 rfl
theorem c225_109 : qx_code 225 109 = some (109, .getfield 9, 112, 8, 1, 1546) := by decide +kernel
theorem s225_109 {L : Nat} {xs : Nat → Int32} {d x : Nat} {M : qxM} {st : List Value} {ls : qxL} {t : Nat} (hk : qx_kd t = 18) : Rs L xs (d) 225 109 ls (.ref t :: st) M x = Rs L xs (d) 225 112 ls (.ref (t + 1) :: st) M x := Rs_when (qx_kd_obj (k := 8) (by decide) hk) c225_109 rfl
theorem c225_112 : qx_code 225 112 = some (112, .iconst 1, 113, 0, 0, 0) := by decide +kernel
theorem s225_112 {L : Nat} {xs : Nat → Int32} {d x : Nat} {M : qxM} {st : List Value} {ls : qxL} : Rs L xs (d) 225 112 ls st M x = Rs L xs (d) 225 113 ls (.int (nI 1) :: st) M x := Rs_next c225_112 rfl
theorem c225_113 : qx_code 225 113 = some (113, .iaload, 114, 0, 0, 0) := by decide +kernel
theorem s225_113 {L : Nat} {xs : Nat → Int32} {d x : Nat} {M : qxM} {st : List Value} {ls : qxL} {t : Nat} {j : Int32} (hk : qx_kd t = 0) (hj : qx_ib j (qx_ln t) = true) : Rs L xs (d) 225 113 ls (.int j :: .ref t :: st) M x = Rs L xs (d) 225 114 ls (.int (M.1 t j.toNatClampNeg) :: st) M x := by
  have h1 := qx_kd_row (k := 0) (by decide) hk
  exact Rs_unless (qx_ib_not hj) c225_113 (by unfold qx_act; dsimp only; rw [h1]; rfl)
theorem c225_114 : qx_code 225 114 = some (114, .ireturn, 115, 0, 0, 0) := by decide +kernel
theorem s225_114 {L : Nat} {xs : Nat → Int32} {d x : Nat} {M : qxM} {ls : qxL} {z : Int32} : Rs L xs (d) 225 114 ls [.int z] M x = some (.inl (some (.int z)), M, x) := Rs_ret c225_114 rfl
theorem c225_115 : qx_code 225 115 = some (115, .aload_n 0, 116, 0, 0, 0) := by decide +kernel
theorem s225_115 {L : Nat} {xs : Nat → Int32} {d x : Nat} {M : qxM} {st : List Value} {a1 : Option Value} {z : Nat} : Rs L xs (d) 225 115 [some (.ref z), a1] st M x = Rs L xs (d) 225 116 [some (.ref z), a1] (.ref z :: st) M x := Rs_next c225_115 rfl
theorem c225_116 : qx_code 225 116 = some (116, .getfield 9, 119, 8, 1, 1546) := by decide +kernel
theorem s225_116 {L : Nat} {xs : Nat → Int32} {d x : Nat} {M : qxM} {st : List Value} {ls : qxL} {t : Nat} (hk : qx_kd t = 18) : Rs L xs (d) 225 116 ls (.ref t :: st) M x = Rs L xs (d) 225 119 ls (.ref (t + 1) :: st) M x := Rs_when (qx_kd_obj (k := 8) (by decide) hk) c225_116 rfl
theorem c225_119 : qx_code 225 119 = some (119, .iconst 2, 120, 0, 0, 0) := by decide +kernel
theorem s225_119 {L : Nat} {xs : Nat → Int32} {d x : Nat} {M : qxM} {st : List Value} {ls : qxL} : Rs L xs (d) 225 119 ls st M x = Rs L xs (d) 225 120 ls (.int (nI 2) :: st) M x := Rs_next c225_119 rfl
theorem c225_120 : qx_code 225 120 = some (120, .iaload, 121, 0, 0, 0) := by decide +kernel
theorem s225_120 {L : Nat} {xs : Nat → Int32} {d x : Nat} {M : qxM} {st : List Value} {ls : qxL} {t : Nat} {j : Int32} (hk : qx_kd t = 0) (hj : qx_ib j (qx_ln t) = true) : Rs L xs (d) 225 120 ls (.int j :: .ref t :: st) M x = Rs L xs (d) 225 121 ls (.int (M.1 t j.toNatClampNeg) :: st) M x := by
  have h1 := qx_kd_row (k := 0) (by decide) hk
  exact Rs_unless (qx_ib_not hj) c225_120 (by unfold qx_act; dsimp only; rw [h1]; rfl)
theorem c225_121 : qx_code 225 121 = some (121, .invokestatic 194, 124, 209, 1, 1788) := by decide +kernel
theorem s225_121 {L : Nat} {xs : Nat → Int32} {d x : Nat} {M : qxM} {st : List Value} {ls : qxL} {z0 : Int32} (hs : st.length ≤ 4) : Rs L xs (d + 1) 225 121 ls (.int z0 :: st) M x = (Rs L xs d 209 0 [some (.int z0), none, none] [] M 0).bind (qx_kn L xs (d + 1) 225 121 124 209 ls st x) := by
  have h1 : qx_act L xs (qx_rt 225) (121, .invokestatic 194, 124, 209, 1, 1788) ls (.int z0 :: st) M = if 1 ≤ (.int z0 :: st).length ∧ st.length ≤ 4 then some (.inr (.inr (.inr (209, [.int z0], st)))) else none := rfl
  rw [if_pos ⟨by simp [List.length_cons]; try omega, hs⟩] at h1
  exact Rs_call c225_121 h1 rfl
theorem c225_124 : qx_code 225 124 = some (124, .ireturn, 125, 0, 0, 0) := by decide +kernel
theorem s225_124 {L : Nat} {xs : Nat → Int32} {d x : Nat} {M : qxM} {ls : qxL} {z : Int32} : Rs L xs (d) 225 124 ls [.int z] M x = some (.inl (some (.int z)), M, x) := Rs_ret c225_124 rfl
theorem c225_125 : qx_code 225 125 = some (125, .aload_n 0, 126, 0, 0, 0) := by decide +kernel
theorem s225_125 {L : Nat} {xs : Nat → Int32} {d x : Nat} {M : qxM} {st : List Value} {a1 : Option Value} {z : Nat} : Rs L xs (d) 225 125 [some (.ref z), a1] st M x = Rs L xs (d) 225 126 [some (.ref z), a1] (.ref z :: st) M x := Rs_next c225_125 rfl
theorem c225_126 : qx_code 225 126 = some (126, .getfield 9, 129, 8, 1, 1546) := by decide +kernel
theorem s225_126 {L : Nat} {xs : Nat → Int32} {d x : Nat} {M : qxM} {st : List Value} {ls : qxL} {t : Nat} (hk : qx_kd t = 18) : Rs L xs (d) 225 126 ls (.ref t :: st) M x = Rs L xs (d) 225 129 ls (.ref (t + 1) :: st) M x := Rs_when (qx_kd_obj (k := 8) (by decide) hk) c225_126 rfl
theorem c225_129 : qx_code 225 129 = some (129, .iconst 3, 130, 0, 0, 0) := by decide +kernel
theorem s225_129 {L : Nat} {xs : Nat → Int32} {d x : Nat} {M : qxM} {st : List Value} {ls : qxL} : Rs L xs (d) 225 129 ls st M x = Rs L xs (d) 225 130 ls (.int (nI 3) :: st) M x := Rs_next c225_129 rfl
theorem c225_130 : qx_code 225 130 = some (130, .iaload, 131, 0, 0, 0) := by decide +kernel
theorem s225_130 {L : Nat} {xs : Nat → Int32} {d x : Nat} {M : qxM} {st : List Value} {ls : qxL} {t : Nat} {j : Int32} (hk : qx_kd t = 0) (hj : qx_ib j (qx_ln t) = true) : Rs L xs (d) 225 130 ls (.int j :: .ref t :: st) M x = Rs L xs (d) 225 131 ls (.int (M.1 t j.toNatClampNeg) :: st) M x := by
  have h1 := qx_kd_row (k := 0) (by decide) hk
  exact Rs_unless (qx_ib_not hj) c225_130 (by unfold qx_act; dsimp only; rw [h1]; rfl)
theorem c225_131 : qx_code 225 131 = some (131, .ireturn, 132, 0, 0, 0) := by decide +kernel
theorem s225_131 {L : Nat} {xs : Nat → Int32} {d x : Nat} {M : qxM} {ls : qxL} {z : Int32} : Rs L xs (d) 225 131 ls [.int z] M x = some (.inl (some (.int z)), M, x) := Rs_ret c225_131 rfl
theorem c225_132 : qx_code 225 132 = some (132, .aload_n 0, 133, 0, 0, 0) := by decide +kernel
theorem s225_132 {L : Nat} {xs : Nat → Int32} {d x : Nat} {M : qxM} {st : List Value} {a1 : Option Value} {z : Nat} : Rs L xs (d) 225 132 [some (.ref z), a1] st M x = Rs L xs (d) 225 133 [some (.ref z), a1] (.ref z :: st) M x := Rs_next c225_132 rfl
theorem c225_133 : qx_code 225 133 = some (133, .getfield 9, 136, 8, 1, 1546) := by decide +kernel
theorem s225_133 {L : Nat} {xs : Nat → Int32} {d x : Nat} {M : qxM} {st : List Value} {ls : qxL} {t : Nat} (hk : qx_kd t = 18) : Rs L xs (d) 225 133 ls (.ref t :: st) M x = Rs L xs (d) 225 136 ls (.ref (t + 1) :: st) M x := Rs_when (qx_kd_obj (k := 8) (by decide) hk) c225_133 rfl
theorem c225_136 : qx_code 225 136 = some (136, .iconst 4, 137, 0, 0, 0) := by decide +kernel
theorem s225_136 {L : Nat} {xs : Nat → Int32} {d x : Nat} {M : qxM} {st : List Value} {ls : qxL} : Rs L xs (d) 225 136 ls st M x = Rs L xs (d) 225 137 ls (.int (nI 4) :: st) M x := Rs_next c225_136 rfl
theorem c225_137 : qx_code 225 137 = some (137, .iaload, 138, 0, 0, 0) := by decide +kernel
theorem s225_137 {L : Nat} {xs : Nat → Int32} {d x : Nat} {M : qxM} {st : List Value} {ls : qxL} {t : Nat} {j : Int32} (hk : qx_kd t = 0) (hj : qx_ib j (qx_ln t) = true) : Rs L xs (d) 225 137 ls (.int j :: .ref t :: st) M x = Rs L xs (d) 225 138 ls (.int (M.1 t j.toNatClampNeg) :: st) M x := by
  have h1 := qx_kd_row (k := 0) (by decide) hk
  exact Rs_unless (qx_ib_not hj) c225_137 (by unfold qx_act; dsimp only; rw [h1]; rfl)
theorem c225_138 : qx_code 225 138 = some (138, .ireturn, 139, 0, 0, 0) := by decide +kernel
theorem s225_138 {L : Nat} {xs : Nat → Int32} {d x : Nat} {M : qxM} {ls : qxL} {z : Int32} : Rs L xs (d) 225 138 ls [.int z] M x = some (.inl (some (.int z)), M, x) := Rs_ret c225_138 rfl
theorem c225_139 : qx_code 225 139 = some (139, .aload_n 0, 140, 0, 0, 0) := by decide +kernel
theorem s225_139 {L : Nat} {xs : Nat → Int32} {d x : Nat} {M : qxM} {st : List Value} {a1 : Option Value} {z : Nat} : Rs L xs (d) 225 139 [some (.ref z), a1] st M x = Rs L xs (d) 225 140 [some (.ref z), a1] (.ref z :: st) M x := Rs_next c225_139 rfl
theorem c225_140 : qx_code 225 140 = some (140, .getfield 9, 143, 8, 1, 1546) := by decide +kernel
theorem s225_140 {L : Nat} {xs : Nat → Int32} {d x : Nat} {M : qxM} {st : List Value} {ls : qxL} {t : Nat} (hk : qx_kd t = 18) : Rs L xs (d) 225 140 ls (.ref t :: st) M x = Rs L xs (d) 225 143 ls (.ref (t + 1) :: st) M x := Rs_when (qx_kd_obj (k := 8) (by decide) hk) c225_140 rfl
theorem c225_143 : qx_code 225 143 = some (143, .iconst 5, 144, 0, 0, 0) := by decide +kernel
theorem s225_143 {L : Nat} {xs : Nat → Int32} {d x : Nat} {M : qxM} {st : List Value} {ls : qxL} : Rs L xs (d) 225 143 ls st M x = Rs L xs (d) 225 144 ls (.int (nI 5) :: st) M x := Rs_next c225_143 rfl
theorem c225_144 : qx_code 225 144 = some (144, .iaload, 145, 0, 0, 0) := by decide +kernel
theorem s225_144 {L : Nat} {xs : Nat → Int32} {d x : Nat} {M : qxM} {st : List Value} {ls : qxL} {t : Nat} {j : Int32} (hk : qx_kd t = 0) (hj : qx_ib j (qx_ln t) = true) : Rs L xs (d) 225 144 ls (.int j :: .ref t :: st) M x = Rs L xs (d) 225 145 ls (.int (M.1 t j.toNatClampNeg) :: st) M x := by
  have h1 := qx_kd_row (k := 0) (by decide) hk
  exact Rs_unless (qx_ib_not hj) c225_144 (by unfold qx_act; dsimp only; rw [h1]; rfl)
theorem c225_145 : qx_code 225 145 = some (145, .ireturn, 146, 0, 0, 0) := by decide +kernel
theorem s225_145 {L : Nat} {xs : Nat → Int32} {d x : Nat} {M : qxM} {ls : qxL} {z : Int32} : Rs L xs (d) 225 145 ls [.int z] M x = some (.inl (some (.int z)), M, x) := Rs_ret c225_145 rfl
theorem c225_146 : qx_code 225 146 = some (146, .aload_n 0, 147, 0, 0, 0) := by decide +kernel
theorem s225_146 {L : Nat} {xs : Nat → Int32} {d x : Nat} {M : qxM} {st : List Value} {a1 : Option Value} {z : Nat} : Rs L xs (d) 225 146 [some (.ref z), a1] st M x = Rs L xs (d) 225 147 [some (.ref z), a1] (.ref z :: st) M x := Rs_next c225_146 rfl
theorem c225_147 : qx_code 225 147 = some (147, .getfield 9, 150, 8, 1, 1546) := by decide +kernel
theorem s225_147 {L : Nat} {xs : Nat → Int32} {d x : Nat} {M : qxM} {st : List Value} {ls : qxL} {t : Nat} (hk : qx_kd t = 18) : Rs L xs (d) 225 147 ls (.ref t :: st) M x = Rs L xs (d) 225 150 ls (.ref (t + 1) :: st) M x := Rs_when (qx_kd_obj (k := 8) (by decide) hk) c225_147 rfl
theorem c225_150 : qx_code 225 150 = some (150, .bipush 6, 152, 0, 0, 0) := by decide +kernel
theorem s225_150 {L : Nat} {xs : Nat → Int32} {d x : Nat} {M : qxM} {st : List Value} {ls : qxL} : Rs L xs (d) 225 150 ls st M x = Rs L xs (d) 225 152 ls (.int (nI 6) :: st) M x := Rs_next c225_150 rfl
theorem c225_152 : qx_code 225 152 = some (152, .iaload, 153, 0, 0, 0) := by decide +kernel
theorem s225_152 {L : Nat} {xs : Nat → Int32} {d x : Nat} {M : qxM} {st : List Value} {ls : qxL} {t : Nat} {j : Int32} (hk : qx_kd t = 0) (hj : qx_ib j (qx_ln t) = true) : Rs L xs (d) 225 152 ls (.int j :: .ref t :: st) M x = Rs L xs (d) 225 153 ls (.int (M.1 t j.toNatClampNeg) :: st) M x := by
  have h1 := qx_kd_row (k := 0) (by decide) hk
  exact Rs_unless (qx_ib_not hj) c225_152 (by unfold qx_act; dsimp only; rw [h1]; rfl)
theorem c225_153 : qx_code 225 153 = some (153, .ireturn, 154, 0, 0, 0) := by decide +kernel
theorem s225_153 {L : Nat} {xs : Nat → Int32} {d x : Nat} {M : qxM} {ls : qxL} {z : Int32} : Rs L xs (d) 225 153 ls [.int z] M x = some (.inl (some (.int z)), M, x) := Rs_ret c225_153 rfl
theorem c226_0 : qx_code 226 0 = some (0, .aload_n 0, 1, 0, 0, 0) := by decide +kernel
theorem s226_0 {L : Nat} {xs : Nat → Int32} {d x : Nat} {M : qxM} {st : List Value} {a1 : Option Value} {z : Nat} : Rs L xs (d) 226 0 [some (.ref z), a1] st M x = Rs L xs (d) 226 1 [some (.ref z), a1] (.ref z :: st) M x := Rs_next c226_0 rfl
theorem c226_1 : qx_code 226 1 = some (1, .aload_n 0, 2, 0, 0, 0) := by decide +kernel
theorem s226_1 {L : Nat} {xs : Nat → Int32} {d x : Nat} {M : qxM} {st : List Value} {a1 : Option Value} {z : Nat} : Rs L xs (d) 226 1 [some (.ref z), a1] st M x = Rs L xs (d) 226 2 [some (.ref z), a1] (.ref z :: st) M x := Rs_next c226_1 rfl
theorem c226_2 : qx_code 226 2 = some (2, .getfield 187, 5, 8, 6, 1551) := by decide +kernel
theorem s226_2 {L : Nat} {xs : Nat → Int32} {d x : Nat} {M : qxM} {st : List Value} {ls : qxL} {t : Nat} (hk : qx_kd t = 18) : Rs L xs (d) 226 2 ls (.ref t :: st) M x = Rs L xs (d) 226 5 ls (.int (M.1 t 6) :: st) M x := Rs_when (qx_kd_obj (k := 8) (by decide) hk) c226_2 rfl
theorem c226_5 : qx_code 226 5 = some (5, .aload_n 0, 6, 0, 0, 0) := by decide +kernel
theorem s226_5 {L : Nat} {xs : Nat → Int32} {d x : Nat} {M : qxM} {st : List Value} {a1 : Option Value} {z : Nat} : Rs L xs (d) 226 5 [some (.ref z), a1] st M x = Rs L xs (d) 226 6 [some (.ref z), a1] (.ref z :: st) M x := Rs_next c226_5 rfl
theorem c226_6 : qx_code 226 6 = some (6, .iload_n 1, 7, 0, 0, 0) := by decide +kernel
theorem s226_6 {L : Nat} {xs : Nat → Int32} {d x : Nat} {M : qxM} {st : List Value} {a0 : Option Value} {z : Int32} : Rs L xs (d) 226 6 [a0, some (.int z)] st M x = Rs L xs (d) 226 7 [a0, some (.int z)] (.int z :: st) M x := Rs_next c226_6 rfl
theorem c226_7 : qx_code 226 7 = some (7, .invokevirtual 226, 10, 211, 2, 1803) := by decide +kernel
theorem s226_7 {L : Nat} {xs : Nat → Int32} {d x : Nat} {M : qxM} {st : List Value} {ls : qxL} {t : Nat} {z0 : Int32} (hk : qx_kd t = 18) (hs : st.length ≤ 4) : Rs L xs (d + 1) 226 7 ls (.int z0 :: .ref t :: st) M x = (Rs L xs d 211 0 [some (.ref t), some (.int z0)] [] M 0).bind (qx_kn L xs (d + 1) 226 7 10 211 ls st x) := by
  have h1 : qx_act L xs (qx_rt 226) (7, .invokevirtual 226, 10, 211, 2, 1803) ls (.int z0 :: .ref t :: st) M = if 2 ≤ (.int z0 :: .ref t :: st).length ∧ st.length ≤ 4 then some (.inr (.inr (.inr (211, [.ref t, .int z0], st)))) else none := rfl
  rw [if_pos ⟨by simp [List.length_cons]; try omega, hs⟩] at h1
  have h2 := qx_kd_obj (k := 8) (by decide) hk
  exact Rs_call c226_7 h1 (by rw [show qx_args 211 [.ref t, .int z0] = decide (qx_sh t = some (.inl 8)) from rfl]; exact decide_eq_true h2)
theorem c226_10 : qx_code 226 10 = some (10, .invokevirtual 216, 13, 181, 3, 1773) := by decide +kernel
theorem s226_10 {L : Nat} {xs : Nat → Int32} {d x : Nat} {M : qxM} {st : List Value} {ls : qxL} {t : Nat} {z0 : Int32} {z1 : Int32} (hk : qx_kd t = 18) (hs : st.length ≤ 4) : Rs L xs (d + 1) 226 10 ls (.int z1 :: .int z0 :: .ref t :: st) M x = (Rs L xs d 181 0 [some (.ref t), some (.int z0), some (.int z1)] [] M 0).bind (qx_kn L xs (d + 1) 226 10 13 181 ls st x) := by
  have h1 : qx_act L xs (qx_rt 226) (10, .invokevirtual 216, 13, 181, 3, 1773) ls (.int z1 :: .int z0 :: .ref t :: st) M = if 3 ≤ (.int z1 :: .int z0 :: .ref t :: st).length ∧ st.length ≤ 4 then some (.inr (.inr (.inr (181, [.ref t, .int z0, .int z1], st)))) else none := rfl
  rw [if_pos ⟨by simp [List.length_cons]; try omega, hs⟩] at h1
  have h2 := qx_kd_obj (k := 8) (by decide) hk
  exact Rs_call c226_10 h1 (by rw [show qx_args 181 [.ref t, .int z0, .int z1] = decide (qx_sh t = some (.inl 8)) from rfl]; exact decide_eq_true h2)
theorem c226_13 : qx_code 226 13 = some (13, .ireturn, 14, 0, 0, 0) := by decide +kernel
theorem s226_13 {L : Nat} {xs : Nat → Int32} {d x : Nat} {M : qxM} {ls : qxL} {z : Int32} (h01 : z = 0 ∨ z = 1) : Rs L xs (d) 226 13 ls [.int z] M x = some (.inl (some (.int z)), M, x) := Rs_retw h01 c226_13 rfl
theorem c227_0 : qx_code 227 0 = some (0, .aload_n 0, 1, 0, 0, 0) := by decide +kernel
theorem s227_0 {L : Nat} {xs : Nat → Int32} {d x : Nat} {M : qxM} {st : List Value} {a1 a2 : Option Value} {z : Nat} : Rs L xs (d) 227 0 [some (.ref z), a1, a2] st M x = Rs L xs (d) 227 1 [some (.ref z), a1, a2] (.ref z :: st) M x := Rs_next c227_0 rfl
theorem c227_1 : qx_code 227 1 = some (1, .aload_n 0, 2, 0, 0, 0) := by decide +kernel
theorem s227_1 {L : Nat} {xs : Nat → Int32} {d x : Nat} {M : qxM} {st : List Value} {a1 a2 : Option Value} {z : Nat} : Rs L xs (d) 227 1 [some (.ref z), a1, a2] st M x = Rs L xs (d) 227 2 [some (.ref z), a1, a2] (.ref z :: st) M x := Rs_next c227_1 rfl
theorem c227_2 : qx_code 227 2 = some (2, .getfield 187, 5, 8, 6, 1551) := by decide +kernel
theorem s227_2 {L : Nat} {xs : Nat → Int32} {d x : Nat} {M : qxM} {st : List Value} {ls : qxL} {t : Nat} (hk : qx_kd t = 18) : Rs L xs (d) 227 2 ls (.ref t :: st) M x = Rs L xs (d) 227 5 ls (.int (M.1 t 6) :: st) M x := Rs_when (qx_kd_obj (k := 8) (by decide) hk) c227_2 rfl
theorem c227_5 : qx_code 227 5 = some (5, .aload_n 0, 6, 0, 0, 0) := by decide +kernel
theorem s227_5 {L : Nat} {xs : Nat → Int32} {d x : Nat} {M : qxM} {st : List Value} {a1 a2 : Option Value} {z : Nat} : Rs L xs (d) 227 5 [some (.ref z), a1, a2] st M x = Rs L xs (d) 227 6 [some (.ref z), a1, a2] (.ref z :: st) M x := Rs_next c227_5 rfl
theorem c227_6 : qx_code 227 6 = some (6, .iload_n 1, 7, 0, 0, 0) := by decide +kernel
theorem s227_6 {L : Nat} {xs : Nat → Int32} {d x : Nat} {M : qxM} {st : List Value} {a0 a2 : Option Value} {z : Int32} : Rs L xs (d) 227 6 [a0, some (.int z), a2] st M x = Rs L xs (d) 227 7 [a0, some (.int z), a2] (.int z :: st) M x := Rs_next c227_6 rfl
theorem c227_7 : qx_code 227 7 = some (7, .invokevirtual 226, 10, 211, 2, 1803) := by decide +kernel
theorem s227_7 {L : Nat} {xs : Nat → Int32} {d x : Nat} {M : qxM} {st : List Value} {ls : qxL} {t : Nat} {z0 : Int32} (hk : qx_kd t = 18) (hs : st.length ≤ 4) : Rs L xs (d + 1) 227 7 ls (.int z0 :: .ref t :: st) M x = (Rs L xs d 211 0 [some (.ref t), some (.int z0)] [] M 0).bind (qx_kn L xs (d + 1) 227 7 10 211 ls st x) := by
  have h1 : qx_act L xs (qx_rt 227) (7, .invokevirtual 226, 10, 211, 2, 1803) ls (.int z0 :: .ref t :: st) M = if 2 ≤ (.int z0 :: .ref t :: st).length ∧ st.length ≤ 4 then some (.inr (.inr (.inr (211, [.ref t, .int z0], st)))) else none := rfl
  rw [if_pos ⟨by simp [List.length_cons]; try omega, hs⟩] at h1
  have h2 := qx_kd_obj (k := 8) (by decide) hk
  exact Rs_call c227_7 h1 (by rw [show qx_args 211 [.ref t, .int z0] = decide (qx_sh t = some (.inl 8)) from rfl]; exact decide_eq_true h2)
theorem c227_10 : qx_code 227 10 = some (10, .ifCond .eq 15, 13, 25, 0, 0) := by decide +kernel
theorem s227_10 {L : Nat} {xs : Nat → Int32} {d x : Nat} {M : qxM} {st : List Value} {ls : qxL} {z : Int32} : Rs L xs (d) 227 10 ls (.int z :: st) M x = if z = 0 then Rs L xs (d) 227 25 ls st M x else Rs L xs (d) 227 13 ls st M x := Rs_ite c227_10 rfl
theorem c227_13 : qx_code 227 13 = some (13, .aload_n 0, 14, 0, 0, 0) := by decide +kernel
theorem s227_13 {L : Nat} {xs : Nat → Int32} {d x : Nat} {M : qxM} {st : List Value} {a1 a2 : Option Value} {z : Nat} : Rs L xs (d) 227 13 [some (.ref z), a1, a2] st M x = Rs L xs (d) 227 14 [some (.ref z), a1, a2] (.ref z :: st) M x := Rs_next c227_13 rfl
theorem c227_14 : qx_code 227 14 = some (14, .iload_n 2, 15, 0, 0, 0) := by decide +kernel
theorem s227_14 {L : Nat} {xs : Nat → Int32} {d x : Nat} {M : qxM} {st : List Value} {a0 a1 : Option Value} {z : Int32} : Rs L xs (d) 227 14 [a0, a1, some (.int z)] st M x = Rs L xs (d) 227 15 [a0, a1, some (.int z)] (.int z :: st) M x := Rs_next c227_14 rfl
theorem c227_15 : qx_code 227 15 = some (15, .invokevirtual 226, 18, 211, 2, 1803) := by decide +kernel
theorem s227_15 {L : Nat} {xs : Nat → Int32} {d x : Nat} {M : qxM} {st : List Value} {ls : qxL} {t : Nat} {z0 : Int32} (hk : qx_kd t = 18) (hs : st.length ≤ 4) : Rs L xs (d + 1) 227 15 ls (.int z0 :: .ref t :: st) M x = (Rs L xs d 211 0 [some (.ref t), some (.int z0)] [] M 0).bind (qx_kn L xs (d + 1) 227 15 18 211 ls st x) := by
  have h1 : qx_act L xs (qx_rt 227) (15, .invokevirtual 226, 18, 211, 2, 1803) ls (.int z0 :: .ref t :: st) M = if 2 ≤ (.int z0 :: .ref t :: st).length ∧ st.length ≤ 4 then some (.inr (.inr (.inr (211, [.ref t, .int z0], st)))) else none := rfl
  rw [if_pos ⟨by simp [List.length_cons]; try omega, hs⟩] at h1
  have h2 := qx_kd_obj (k := 8) (by decide) hk
  exact Rs_call c227_15 h1 (by rw [show qx_args 211 [.ref t, .int z0] = decide (qx_sh t = some (.inl 8)) from rfl]; exact decide_eq_true h2)
theorem c227_18 : qx_code 227 18 = some (18, .ifCond .eq 7, 21, 25, 0, 0) := by decide +kernel
theorem s227_18 {L : Nat} {xs : Nat → Int32} {d x : Nat} {M : qxM} {st : List Value} {ls : qxL} {z : Int32} : Rs L xs (d) 227 18 ls (.int z :: st) M x = if z = 0 then Rs L xs (d) 227 25 ls st M x else Rs L xs (d) 227 21 ls st M x := Rs_ite c227_18 rfl
theorem c227_21 : qx_code 227 21 = some (21, .iconst 1, 22, 0, 0, 0) := by decide +kernel
theorem s227_21 {L : Nat} {xs : Nat → Int32} {d x : Nat} {M : qxM} {st : List Value} {ls : qxL} : Rs L xs (d) 227 21 ls st M x = Rs L xs (d) 227 22 ls (.int (nI 1) :: st) M x := Rs_next c227_21 rfl
theorem c227_22 : qx_code 227 22 = some (22, .goto 4, 25, 26, 0, 0) := by decide +kernel
theorem s227_22 {L : Nat} {xs : Nat → Int32} {d x : Nat} {M : qxM} {st : List Value} {ls : qxL} : Rs L xs (d) 227 22 ls st M x = Rs L xs (d) 227 26 ls st M x := Rs_next c227_22 rfl
theorem c227_25 : qx_code 227 25 = some (25, .iconst 0, 26, 0, 0, 0) := by decide +kernel
theorem s227_25 {L : Nat} {xs : Nat → Int32} {d x : Nat} {M : qxM} {st : List Value} {ls : qxL} : Rs L xs (d) 227 25 ls st M x = Rs L xs (d) 227 26 ls (.int (nI 0) :: st) M x := Rs_next c227_25 rfl
theorem c227_26 : qx_code 227 26 = some (26, .invokevirtual 216, 29, 181, 3, 1773) := by decide +kernel
theorem s227_26 {L : Nat} {xs : Nat → Int32} {d x : Nat} {M : qxM} {st : List Value} {ls : qxL} {t : Nat} {z0 : Int32} {z1 : Int32} (hk : qx_kd t = 18) (hs : st.length ≤ 4) : Rs L xs (d + 1) 227 26 ls (.int z1 :: .int z0 :: .ref t :: st) M x = (Rs L xs d 181 0 [some (.ref t), some (.int z0), some (.int z1)] [] M 0).bind (qx_kn L xs (d + 1) 227 26 29 181 ls st x) := by
  have h1 : qx_act L xs (qx_rt 227) (26, .invokevirtual 216, 29, 181, 3, 1773) ls (.int z1 :: .int z0 :: .ref t :: st) M = if 3 ≤ (.int z1 :: .int z0 :: .ref t :: st).length ∧ st.length ≤ 4 then some (.inr (.inr (.inr (181, [.ref t, .int z0, .int z1], st)))) else none := rfl
  rw [if_pos ⟨by simp [List.length_cons]; try omega, hs⟩] at h1
  have h2 := qx_kd_obj (k := 8) (by decide) hk
  exact Rs_call c227_26 h1 (by rw [show qx_args 181 [.ref t, .int z0, .int z1] = decide (qx_sh t = some (.inl 8)) from rfl]; exact decide_eq_true h2)
theorem c227_29 : qx_code 227 29 = some (29, .ireturn, 30, 0, 0, 0) := by decide +kernel
theorem s227_29 {L : Nat} {xs : Nat → Int32} {d x : Nat} {M : qxM} {ls : qxL} {z : Int32} (h01 : z = 0 ∨ z = 1) : Rs L xs (d) 227 29 ls [.int z] M x = some (.inl (some (.int z)), M, x) := Rs_retw h01 c227_29 rfl
theorem c228_0 : qx_code 228 0 = some (0, .aload_n 0, 1, 0, 0, 0) := by decide +kernel
theorem s228_0 {L : Nat} {xs : Nat → Int32} {d x : Nat} {M : qxM} {st : List Value} {a1 a2 : Option Value} {z : Nat} : Rs L xs (d) 228 0 [some (.ref z), a1, a2] st M x = Rs L xs (d) 228 1 [some (.ref z), a1, a2] (.ref z :: st) M x := Rs_next c228_0 rfl
theorem c228_1 : qx_code 228 1 = some (1, .aload_n 0, 2, 0, 0, 0) := by decide +kernel
theorem s228_1 {L : Nat} {xs : Nat → Int32} {d x : Nat} {M : qxM} {st : List Value} {a1 a2 : Option Value} {z : Nat} : Rs L xs (d) 228 1 [some (.ref z), a1, a2] st M x = Rs L xs (d) 228 2 [some (.ref z), a1, a2] (.ref z :: st) M x := Rs_next c228_1 rfl
theorem c228_2 : qx_code 228 2 = some (2, .getfield 187, 5, 8, 6, 1551) := by decide +kernel
theorem s228_2 {L : Nat} {xs : Nat → Int32} {d x : Nat} {M : qxM} {st : List Value} {ls : qxL} {t : Nat} (hk : qx_kd t = 18) : Rs L xs (d) 228 2 ls (.ref t :: st) M x = Rs L xs (d) 228 5 ls (.int (M.1 t 6) :: st) M x := Rs_when (qx_kd_obj (k := 8) (by decide) hk) c228_2 rfl
theorem c228_5 : qx_code 228 5 = some (5, .aload_n 0, 6, 0, 0, 0) := by decide +kernel
theorem s228_5 {L : Nat} {xs : Nat → Int32} {d x : Nat} {M : qxM} {st : List Value} {a1 a2 : Option Value} {z : Nat} : Rs L xs (d) 228 5 [some (.ref z), a1, a2] st M x = Rs L xs (d) 228 6 [some (.ref z), a1, a2] (.ref z :: st) M x := Rs_next c228_5 rfl
theorem c228_6 : qx_code 228 6 = some (6, .iload_n 1, 7, 0, 0, 0) := by decide +kernel
theorem s228_6 {L : Nat} {xs : Nat → Int32} {d x : Nat} {M : qxM} {st : List Value} {a0 a2 : Option Value} {z : Int32} : Rs L xs (d) 228 6 [a0, some (.int z), a2] st M x = Rs L xs (d) 228 7 [a0, some (.int z), a2] (.int z :: st) M x := Rs_next c228_6 rfl
theorem c228_7 : qx_code 228 7 = some (7, .invokevirtual 226, 10, 211, 2, 1803) := by decide +kernel
theorem s228_7 {L : Nat} {xs : Nat → Int32} {d x : Nat} {M : qxM} {st : List Value} {ls : qxL} {t : Nat} {z0 : Int32} (hk : qx_kd t = 18) (hs : st.length ≤ 4) : Rs L xs (d + 1) 228 7 ls (.int z0 :: .ref t :: st) M x = (Rs L xs d 211 0 [some (.ref t), some (.int z0)] [] M 0).bind (qx_kn L xs (d + 1) 228 7 10 211 ls st x) := by
  have h1 : qx_act L xs (qx_rt 228) (7, .invokevirtual 226, 10, 211, 2, 1803) ls (.int z0 :: .ref t :: st) M = if 2 ≤ (.int z0 :: .ref t :: st).length ∧ st.length ≤ 4 then some (.inr (.inr (.inr (211, [.ref t, .int z0], st)))) else none := rfl
  rw [if_pos ⟨by simp [List.length_cons]; try omega, hs⟩] at h1
  have h2 := qx_kd_obj (k := 8) (by decide) hk
  exact Rs_call c228_7 h1 (by rw [show qx_args 211 [.ref t, .int z0] = decide (qx_sh t = some (.inl 8)) from rfl]; exact decide_eq_true h2)
theorem c228_10 : qx_code 228 10 = some (10, .iload_n 2, 11, 0, 0, 0) := by decide +kernel
theorem s228_10 {L : Nat} {xs : Nat → Int32} {d x : Nat} {M : qxM} {st : List Value} {a0 a1 : Option Value} {z : Int32} : Rs L xs (d) 228 10 [a0, a1, some (.int z)] st M x = Rs L xs (d) 228 11 [a0, a1, some (.int z)] (.int z :: st) M x := Rs_next c228_10 rfl
theorem c228_11 : qx_code 228 11 = some (11, .iconst 0, 12, 0, 0, 0) := by decide +kernel
theorem s228_11 {L : Nat} {xs : Nat → Int32} {d x : Nat} {M : qxM} {st : List Value} {ls : qxL} : Rs L xs (d) 228 11 ls st M x = Rs L xs (d) 228 12 ls (.int (nI 0) :: st) M x := Rs_next c228_11 rfl
theorem c228_12 : qx_code 228 12 = some (12, .iconst 3, 13, 0, 0, 0) := by decide +kernel
theorem s228_12 {L : Nat} {xs : Nat → Int32} {d x : Nat} {M : qxM} {st : List Value} {ls : qxL} : Rs L xs (d) 228 12 ls st M x = Rs L xs (d) 228 13 ls (.int (nI 3) :: st) M x := Rs_next c228_12 rfl
theorem c228_13 : qx_code 228 13 = some (13, .invokestatic 69, 16, 178, 3, 1641) := by decide +kernel
theorem s228_13 {L : Nat} {xs : Nat → Int32} {d x : Nat} {M : qxM} {st : List Value} {ls : qxL} {z0 : Int32} {z1 : Int32} {z2 : Int32} (hs : st.length ≤ 4) : Rs L xs (d + 1) 228 13 ls (.int z2 :: .int z1 :: .int z0 :: st) M x = (Rs L xs d 178 0 [some (.int z0), some (.int z1), some (.int z2)] [] M 0).bind (qx_kn L xs (d + 1) 228 13 16 178 ls st x) := by
  have h1 : qx_act L xs (qx_rt 228) (13, .invokestatic 69, 16, 178, 3, 1641) ls (.int z2 :: .int z1 :: .int z0 :: st) M = if 3 ≤ (.int z2 :: .int z1 :: .int z0 :: st).length ∧ st.length ≤ 4 then some (.inr (.inr (.inr (178, [.int z0, .int z1, .int z2], st)))) else none := rfl
  rw [if_pos ⟨by simp [List.length_cons]; try omega, hs⟩] at h1
  exact Rs_call c228_13 h1 rfl
theorem c228_16 : qx_code 228 16 = some (16, .invokevirtual 49, 19, 180, 4, 1644) := by decide +kernel
theorem s228_16 {L : Nat} {xs : Nat → Int32} {d x : Nat} {M : qxM} {st : List Value} {ls : qxL} {t : Nat} {z0 : Int32} {z1 : Int32} {z2 : Int32} (hk : qx_kd t = 18) (hs : st.length ≤ 4) : Rs L xs (d + 1) 228 16 ls (.int z2 :: .int z1 :: .int z0 :: .ref t :: st) M x = (Rs L xs d 180 0 [some (.ref t), some (.int z0), some (.int z1), some (.int z2)] [] M 0).bind (qx_kn L xs (d + 1) 228 16 19 180 ls st x) := by
  have h1 : qx_act L xs (qx_rt 228) (16, .invokevirtual 49, 19, 180, 4, 1644) ls (.int z2 :: .int z1 :: .int z0 :: .ref t :: st) M = if 4 ≤ (.int z2 :: .int z1 :: .int z0 :: .ref t :: st).length ∧ st.length ≤ 4 then some (.inr (.inr (.inr (180, [.ref t, .int z0, .int z1, .int z2], st)))) else none := rfl
  rw [if_pos ⟨by simp [List.length_cons]; try omega, hs⟩] at h1
  have h2 := qx_kd_obj (k := 8) (by decide) hk
  exact Rs_call c228_16 h1 (by rw [show qx_args 180 [.ref t, .int z0, .int z1, .int z2] = decide (qx_sh t = some (.inl 8)) from rfl]; exact decide_eq_true h2)
theorem c228_19 : qx_code 228 19 = some (19, .ifCond .ne 5, 22, 24, 0, 0) := by decide +kernel
theorem s228_19 {L : Nat} {xs : Nat → Int32} {d x : Nat} {M : qxM} {st : List Value} {ls : qxL} {z : Int32} : Rs L xs (d) 228 19 ls (.int z :: st) M x = if z = 0 then Rs L xs (d) 228 22 ls st M x else Rs L xs (d) 228 24 ls st M x := Rs_ite c228_19 rfl
theorem c228_22 : qx_code 228 22 = some (22, .iconst 0, 23, 0, 0, 0) := by decide +kernel
theorem s228_22 {L : Nat} {xs : Nat → Int32} {d x : Nat} {M : qxM} {st : List Value} {ls : qxL} : Rs L xs (d) 228 22 ls st M x = Rs L xs (d) 228 23 ls (.int (nI 0) :: st) M x := Rs_next c228_22 rfl
theorem c228_23 : qx_code 228 23 = some (23, .ireturn, 24, 0, 0, 0) := by decide +kernel
theorem s228_23 {L : Nat} {xs : Nat → Int32} {d x : Nat} {M : qxM} {ls : qxL} {z : Int32} : Rs L xs (d) 228 23 ls [.int z] M x = some (.inl (some (.int z)), M, x) := Rs_ret c228_23 rfl
theorem c228_24 : qx_code 228 24 = some (24, .iload_n 2, 25, 0, 0, 0) := by decide +kernel
theorem s228_24 {L : Nat} {xs : Nat → Int32} {d x : Nat} {M : qxM} {st : List Value} {a0 a1 : Option Value} {z : Int32} : Rs L xs (d) 228 24 [a0, a1, some (.int z)] st M x = Rs L xs (d) 228 25 [a0, a1, some (.int z)] (.int z :: st) M x := Rs_next c228_24 rfl
theorem c228_25 : qx_code 228 25 = some (25, .tableswitch 63 0 2 #[27, 41, 54], 52, 0, 0, 0) := by decide +kernel
theorem s228_25_0 {L : Nat} {xs : Nat → Int32} {d x : Nat} {M : qxM} {st : List Value} {ls : qxL} : Rs L xs (d) 228 25 ls (.int (nI 0) :: st) M x = Rs L xs (d) 228 52 ls st M x := Rs_next c228_25 rfl
theorem s228_25_1 {L : Nat} {xs : Nat → Int32} {d x : Nat} {M : qxM} {st : List Value} {ls : qxL} : Rs L xs (d) 228 25 ls (.int (nI 1) :: st) M x = Rs L xs (d) 228 66 ls st M x := Rs_next c228_25 rfl
theorem s228_25_2 {L : Nat} {xs : Nat → Int32} {d x : Nat} {M : qxM} {st : List Value} {ls : qxL} : Rs L xs (d) 228 25 ls (.int (nI 2) :: st) M x = Rs L xs (d) 228 79 ls st M x := Rs_next c228_25 rfl
theorem s228_25_3 {L : Nat} {xs : Nat → Int32} {d x : Nat} {M : qxM} {st : List Value} {ls : qxL} : Rs L xs (d) 228 25 ls (.int (nI 3) :: st) M x = Rs L xs (d) 228 88 ls st M x := Rs_next c228_25 rfl
theorem c228_52 : qx_code 228 52 = some (52, .aload_n 0, 53, 0, 0, 0) := by decide +kernel
theorem s228_52 {L : Nat} {xs : Nat → Int32} {d x : Nat} {M : qxM} {st : List Value} {a1 a2 : Option Value} {z : Nat} : Rs L xs (d) 228 52 [some (.ref z), a1, a2] st M x = Rs L xs (d) 228 53 [some (.ref z), a1, a2] (.ref z :: st) M x := Rs_next c228_52 rfl
theorem c228_53 : qx_code 228 53 = some (53, .getfield 9, 56, 8, 1, 1546) := by decide +kernel
theorem s228_53 {L : Nat} {xs : Nat → Int32} {d x : Nat} {M : qxM} {st : List Value} {ls : qxL} {t : Nat} (hk : qx_kd t = 18) : Rs L xs (d) 228 53 ls (.ref t :: st) M x = Rs L xs (d) 228 56 ls (.ref (t + 1) :: st) M x := Rs_when (qx_kd_obj (k := 8) (by decide) hk) c228_53 rfl
theorem c228_56 : qx_code 228 56 = some (56, .iconst 2, 57, 0, 0, 0) := by decide +kernel
theorem s228_56 {L : Nat} {xs : Nat → Int32} {d x : Nat} {M : qxM} {st : List Value} {ls : qxL} : Rs L xs (d) 228 56 ls st M x = Rs L xs (d) 228 57 ls (.int (nI 2) :: st) M x := Rs_next c228_56 rfl
theorem c228_57 : qx_code 228 57 = some (57, .iaload, 58, 0, 0, 0) := by decide +kernel
theorem s228_57 {L : Nat} {xs : Nat → Int32} {d x : Nat} {M : qxM} {st : List Value} {ls : qxL} {t : Nat} {j : Int32} (hk : qx_kd t = 0) (hj : qx_ib j (qx_ln t) = true) : Rs L xs (d) 228 57 ls (.int j :: .ref t :: st) M x = Rs L xs (d) 228 58 ls (.int (M.1 t j.toNatClampNeg) :: st) M x := by
  have h1 := qx_kd_row (k := 0) (by decide) hk
  exact Rs_unless (qx_ib_not hj) c228_57 (by unfold qx_act; dsimp only; rw [h1]; rfl)
theorem c228_58 : qx_code 228 58 = some (58, .iload_n 1, 59, 0, 0, 0) := by decide +kernel
theorem s228_58 {L : Nat} {xs : Nat → Int32} {d x : Nat} {M : qxM} {st : List Value} {a0 a2 : Option Value} {z : Int32} : Rs L xs (d) 228 58 [a0, some (.int z), a2] st M x = Rs L xs (d) 228 59 [a0, some (.int z), a2] (.int z :: st) M x := Rs_next c228_58 rfl
theorem c228_59 : qx_code 228 59 = some (59, .invokestatic 128, 62, 208, 2, 1729) := by decide +kernel
theorem s228_59 {L : Nat} {xs : Nat → Int32} {d x : Nat} {M : qxM} {st : List Value} {ls : qxL} {z0 : Int32} {z1 : Int32} (hs : st.length ≤ 4) : Rs L xs (d + 1) 228 59 ls (.int z1 :: .int z0 :: st) M x = (Rs L xs d 208 0 [some (.int z0), some (.int z1)] [] M 0).bind (qx_kn L xs (d + 1) 228 59 62 208 ls st x) := by
  have h1 : qx_act L xs (qx_rt 228) (59, .invokestatic 128, 62, 208, 2, 1729) ls (.int z1 :: .int z0 :: st) M = if 2 ≤ (.int z1 :: .int z0 :: st).length ∧ st.length ≤ 4 then some (.inr (.inr (.inr (208, [.int z0, .int z1], st)))) else none := rfl
  rw [if_pos ⟨by simp [List.length_cons]; try omega, hs⟩] at h1
  exact Rs_call c228_59 h1 rfl
theorem c228_62 : qx_code 228 62 = some (62, .invokestatic 203, 65, 179, 1, 1785) := by decide +kernel
theorem s228_62 {L : Nat} {xs : Nat → Int32} {d x : Nat} {M : qxM} {st : List Value} {ls : qxL} {z0 : Int32} (hs : st.length ≤ 4) : Rs L xs (d + 1) 228 62 ls (.int z0 :: st) M x = (Rs L xs d 179 0 [some (.int z0)] [] M 0).bind (qx_kn L xs (d + 1) 228 62 65 179 ls st x) := by
  have h1 : qx_act L xs (qx_rt 228) (62, .invokestatic 203, 65, 179, 1, 1785) ls (.int z0 :: st) M = if 1 ≤ (.int z0 :: st).length ∧ st.length ≤ 4 then some (.inr (.inr (.inr (179, [.int z0], st)))) else none := rfl
  rw [if_pos ⟨by simp [List.length_cons]; try omega, hs⟩] at h1
  exact Rs_call c228_62 h1 rfl
theorem c228_65 : qx_code 228 65 = some (65, .ireturn, 66, 0, 0, 0) := by decide +kernel
theorem s228_65 {L : Nat} {xs : Nat → Int32} {d x : Nat} {M : qxM} {ls : qxL} {z : Int32} : Rs L xs (d) 228 65 ls [.int z] M x = some (.inl (some (.int z)), M, x) := Rs_ret c228_65 rfl
theorem c228_66 : qx_code 228 66 = some (66, .aload_n 0, 67, 0, 0, 0) := by decide +kernel
theorem s228_66 {L : Nat} {xs : Nat → Int32} {d x : Nat} {M : qxM} {st : List Value} {a1 a2 : Option Value} {z : Nat} : Rs L xs (d) 228 66 [some (.ref z), a1, a2] st M x = Rs L xs (d) 228 67 [some (.ref z), a1, a2] (.ref z :: st) M x := Rs_next c228_66 rfl
theorem c228_67 : qx_code 228 67 = some (67, .getfield 9, 70, 8, 1, 1546) := by decide +kernel
theorem s228_67 {L : Nat} {xs : Nat → Int32} {d x : Nat} {M : qxM} {st : List Value} {ls : qxL} {t : Nat} (hk : qx_kd t = 18) : Rs L xs (d) 228 67 ls (.ref t :: st) M x = Rs L xs (d) 228 70 ls (.ref (t + 1) :: st) M x := Rs_when (qx_kd_obj (k := 8) (by decide) hk) c228_67 rfl
theorem c228_70 : qx_code 228 70 = some (70, .bipush 7, 72, 0, 0, 0) := by decide +kernel
theorem s228_70 {L : Nat} {xs : Nat → Int32} {d x : Nat} {M : qxM} {st : List Value} {ls : qxL} : Rs L xs (d) 228 70 ls st M x = Rs L xs (d) 228 72 ls (.int (nI 7) :: st) M x := Rs_next c228_70 rfl
theorem c228_72 : qx_code 228 72 = some (72, .iload_n 1, 73, 0, 0, 0) := by decide +kernel
theorem s228_72 {L : Nat} {xs : Nat → Int32} {d x : Nat} {M : qxM} {st : List Value} {a0 a2 : Option Value} {z : Int32} : Rs L xs (d) 228 72 [a0, some (.int z), a2] st M x = Rs L xs (d) 228 73 [a0, some (.int z), a2] (.int z :: st) M x := Rs_next c228_72 rfl
theorem c228_73 : qx_code 228 73 = some (73, .iadd, 74, 0, 0, 0) := by decide +kernel
theorem s228_73 {L : Nat} {xs : Nat → Int32} {d x : Nat} {M : qxM} {st : List Value} {ls : qxL} {z y : Int32} : Rs L xs (d) 228 73 ls (.int y :: .int z :: st) M x = Rs L xs (d) 228 74 ls (.int (z + y) :: st) M x := Rs_next c228_73 rfl
theorem c228_74 : qx_code 228 74 = some (74, .iaload, 75, 0, 0, 0) := by decide +kernel
theorem s228_74 {L : Nat} {xs : Nat → Int32} {d x : Nat} {M : qxM} {st : List Value} {ls : qxL} {t : Nat} {j : Int32} (hk : qx_kd t = 0) (hj : qx_ib j (qx_ln t) = true) : Rs L xs (d) 228 74 ls (.int j :: .ref t :: st) M x = Rs L xs (d) 228 75 ls (.int (M.1 t j.toNatClampNeg) :: st) M x := by
  have h1 := qx_kd_row (k := 0) (by decide) hk
  exact Rs_unless (qx_ib_not hj) c228_74 (by unfold qx_act; dsimp only; rw [h1]; rfl)
theorem c228_75 : qx_code 228 75 = some (75, .invokestatic 194, 78, 209, 1, 1788) := by decide +kernel
theorem s228_75 {L : Nat} {xs : Nat → Int32} {d x : Nat} {M : qxM} {st : List Value} {ls : qxL} {z0 : Int32} (hs : st.length ≤ 4) : Rs L xs (d + 1) 228 75 ls (.int z0 :: st) M x = (Rs L xs d 209 0 [some (.int z0), none, none] [] M 0).bind (qx_kn L xs (d + 1) 228 75 78 209 ls st x) := by
  have h1 : qx_act L xs (qx_rt 228) (75, .invokestatic 194, 78, 209, 1, 1788) ls (.int z0 :: st) M = if 1 ≤ (.int z0 :: st).length ∧ st.length ≤ 4 then some (.inr (.inr (.inr (209, [.int z0], st)))) else none := rfl
  rw [if_pos ⟨by simp [List.length_cons]; try omega, hs⟩] at h1
  exact Rs_call c228_75 h1 rfl
theorem c228_78 : qx_code 228 78 = some (78, .ireturn, 79, 0, 0, 0) := by decide +kernel
theorem s228_78 {L : Nat} {xs : Nat → Int32} {d x : Nat} {M : qxM} {ls : qxL} {z : Int32} : Rs L xs (d) 228 78 ls [.int z] M x = some (.inl (some (.int z)), M, x) := Rs_ret c228_78 rfl
theorem c228_79 : qx_code 228 79 = some (79, .aload_n 0, 80, 0, 0, 0) := by decide +kernel
theorem s228_79 {L : Nat} {xs : Nat → Int32} {d x : Nat} {M : qxM} {st : List Value} {a1 a2 : Option Value} {z : Nat} : Rs L xs (d) 228 79 [some (.ref z), a1, a2] st M x = Rs L xs (d) 228 80 [some (.ref z), a1, a2] (.ref z :: st) M x := Rs_next c228_79 rfl
theorem c228_80 : qx_code 228 80 = some (80, .iload_n 1, 81, 0, 0, 0) := by decide +kernel
theorem s228_80 {L : Nat} {xs : Nat → Int32} {d x : Nat} {M : qxM} {st : List Value} {a0 a2 : Option Value} {z : Int32} : Rs L xs (d) 228 80 [a0, some (.int z), a2] st M x = Rs L xs (d) 228 81 [a0, some (.int z), a2] (.int z :: st) M x := Rs_next c228_80 rfl
theorem c228_81 : qx_code 228 81 = some (81, .invokevirtual 210, 84, 220, 2, 1781) := by decide +kernel
theorem s228_81 {L : Nat} {xs : Nat → Int32} {d x : Nat} {M : qxM} {st : List Value} {ls : qxL} {t : Nat} {z0 : Int32} (hk : qx_kd t = 18) (hs : st.length ≤ 4) : Rs L xs (d + 1) 228 81 ls (.int z0 :: .ref t :: st) M x = (Rs L xs d 220 0 [some (.ref t), some (.int z0), none, none] [] M 0).bind (qx_kn L xs (d + 1) 228 81 84 220 ls st x) := by
  have h1 : qx_act L xs (qx_rt 228) (81, .invokevirtual 210, 84, 220, 2, 1781) ls (.int z0 :: .ref t :: st) M = if 2 ≤ (.int z0 :: .ref t :: st).length ∧ st.length ≤ 4 then some (.inr (.inr (.inr (220, [.ref t, .int z0], st)))) else none := rfl
  rw [if_pos ⟨by simp [List.length_cons]; try omega, hs⟩] at h1
  have h2 := qx_kd_obj (k := 8) (by decide) hk
  exact Rs_call c228_81 h1 (by rw [show qx_args 220 [.ref t, .int z0] = decide (qx_sh t = some (.inl 8)) from rfl]; exact decide_eq_true h2)
theorem c228_84 : qx_code 228 84 = some (84, .invokestatic 194, 87, 209, 1, 1788) := by decide +kernel
theorem s228_84 {L : Nat} {xs : Nat → Int32} {d x : Nat} {M : qxM} {st : List Value} {ls : qxL} {z0 : Int32} (hs : st.length ≤ 4) : Rs L xs (d + 1) 228 84 ls (.int z0 :: st) M x = (Rs L xs d 209 0 [some (.int z0), none, none] [] M 0).bind (qx_kn L xs (d + 1) 228 84 87 209 ls st x) := by
  have h1 : qx_act L xs (qx_rt 228) (84, .invokestatic 194, 87, 209, 1, 1788) ls (.int z0 :: st) M = if 1 ≤ (.int z0 :: st).length ∧ st.length ≤ 4 then some (.inr (.inr (.inr (209, [.int z0], st)))) else none := rfl
  rw [if_pos ⟨by simp [List.length_cons]; try omega, hs⟩] at h1
  exact Rs_call c228_84 h1 rfl
theorem c228_87 : qx_code 228 87 = some (87, .ireturn, 88, 0, 0, 0) := by decide +kernel
theorem s228_87 {L : Nat} {xs : Nat → Int32} {d x : Nat} {M : qxM} {ls : qxL} {z : Int32} : Rs L xs (d) 228 87 ls [.int z] M x = some (.inl (some (.int z)), M, x) := Rs_ret c228_87 rfl
theorem c228_88 : qx_code 228 88 = some (88, .aload_n 0, 89, 0, 0, 0) := by decide +kernel
theorem s228_88 {L : Nat} {xs : Nat → Int32} {d x : Nat} {M : qxM} {st : List Value} {a1 a2 : Option Value} {z : Nat} : Rs L xs (d) 228 88 [some (.ref z), a1, a2] st M x = Rs L xs (d) 228 89 [some (.ref z), a1, a2] (.ref z :: st) M x := Rs_next c228_88 rfl
theorem c228_89 : qx_code 228 89 = some (89, .iload_n 1, 90, 0, 0, 0) := by decide +kernel
theorem s228_89 {L : Nat} {xs : Nat → Int32} {d x : Nat} {M : qxM} {st : List Value} {a0 a2 : Option Value} {z : Int32} : Rs L xs (d) 228 89 [a0, some (.int z), a2] st M x = Rs L xs (d) 228 90 [a0, some (.int z), a2] (.int z :: st) M x := Rs_next c228_89 rfl
theorem c228_90 : qx_code 228 90 = some (90, .invokevirtual 132, 93, 213, 2, 1737) := by decide +kernel
theorem s228_90 {L : Nat} {xs : Nat → Int32} {d x : Nat} {M : qxM} {st : List Value} {ls : qxL} {t : Nat} {z0 : Int32} (hk : qx_kd t = 18) (hs : st.length ≤ 4) : Rs L xs (d + 1) 228 90 ls (.int z0 :: .ref t :: st) M x = (Rs L xs d 213 0 [some (.ref t), some (.int z0)] [] M 0).bind (qx_kn L xs (d + 1) 228 90 93 213 ls st x) := by
  have h1 : qx_act L xs (qx_rt 228) (90, .invokevirtual 132, 93, 213, 2, 1737) ls (.int z0 :: .ref t :: st) M = if 2 ≤ (.int z0 :: .ref t :: st).length ∧ st.length ≤ 4 then some (.inr (.inr (.inr (213, [.ref t, .int z0], st)))) else none := rfl
  rw [if_pos ⟨by simp [List.length_cons]; try omega, hs⟩] at h1
  have h2 := qx_kd_obj (k := 8) (by decide) hk
  exact Rs_call c228_90 h1 (by rw [show qx_args 213 [.ref t, .int z0] = decide (qx_sh t = some (.inl 8)) from rfl]; exact decide_eq_true h2)
theorem c228_93 : qx_code 228 93 = some (93, .ireturn, 94, 0, 0, 0) := by decide +kernel
theorem s228_93 {L : Nat} {xs : Nat → Int32} {d x : Nat} {M : qxM} {ls : qxL} {z : Int32} : Rs L xs (d) 228 93 ls [.int z] M x = some (.inl (some (.int z)), M, x) := Rs_ret c228_93 rfl
theorem c229_0 : qx_code 229 0 = some (0, .aload_n 0, 1, 0, 0, 0) := by decide +kernel
theorem s229_0 {L : Nat} {xs : Nat → Int32} {d x : Nat} {M : qxM} {st : List Value} {a1 a2 : Option Value} {z : Nat} : Rs L xs (d) 229 0 [some (.ref z), a1, a2] st M x = Rs L xs (d) 229 1 [some (.ref z), a1, a2] (.ref z :: st) M x := Rs_next c229_0 rfl
theorem c229_1 : qx_code 229 1 = some (1, .iload_n 1, 2, 0, 0, 0) := by decide +kernel
theorem s229_1 {L : Nat} {xs : Nat → Int32} {d x : Nat} {M : qxM} {st : List Value} {a0 a2 : Option Value} {z : Int32} : Rs L xs (d) 229 1 [a0, some (.int z), a2] st M x = Rs L xs (d) 229 2 [a0, some (.int z), a2] (.int z :: st) M x := Rs_next c229_1 rfl
theorem c229_2 : qx_code 229 2 = some (2, .iload_n 2, 3, 0, 0, 0) := by decide +kernel
theorem s229_2 {L : Nat} {xs : Nat → Int32} {d x : Nat} {M : qxM} {st : List Value} {a0 a1 : Option Value} {z : Int32} : Rs L xs (d) 229 2 [a0, a1, some (.int z)] st M x = Rs L xs (d) 229 3 [a0, a1, some (.int z)] (.int z :: st) M x := Rs_next c229_2 rfl
theorem c229_3 : qx_code 229 3 = some (3, .invokevirtual 229, 6, 227, 3, 1811) := by decide +kernel
theorem s229_3 {L : Nat} {xs : Nat → Int32} {d x : Nat} {M : qxM} {st : List Value} {ls : qxL} {t : Nat} {z0 : Int32} {z1 : Int32} (hk : qx_kd t = 18) (hs : st.length ≤ 4) : Rs L xs (d + 1) 229 3 ls (.int z1 :: .int z0 :: .ref t :: st) M x = (Rs L xs d 227 0 [some (.ref t), some (.int z0), some (.int z1)] [] M 0).bind (qx_kn L xs (d + 1) 229 3 6 227 ls st x) := by
  have h1 : qx_act L xs (qx_rt 229) (3, .invokevirtual 229, 6, 227, 3, 1811) ls (.int z1 :: .int z0 :: .ref t :: st) M = if 3 ≤ (.int z1 :: .int z0 :: .ref t :: st).length ∧ st.length ≤ 4 then some (.inr (.inr (.inr (227, [.ref t, .int z0, .int z1], st)))) else none := rfl
  rw [if_pos ⟨by simp [List.length_cons]; try omega, hs⟩] at h1
  have h2 := qx_kd_obj (k := 8) (by decide) hk
  exact Rs_call c229_3 h1 (by rw [show qx_args 227 [.ref t, .int z0, .int z1] = decide (qx_sh t = some (.inl 8)) from rfl]; exact decide_eq_true h2)
theorem c229_6 : qx_code 229 6 = some (6, .ifCond .eq 16, 9, 22, 0, 0) := by decide +kernel
theorem s229_6 {L : Nat} {xs : Nat → Int32} {d x : Nat} {M : qxM} {st : List Value} {ls : qxL} {z : Int32} : Rs L xs (d) 229 6 ls (.int z :: st) M x = if z = 0 then Rs L xs (d) 229 22 ls st M x else Rs L xs (d) 229 9 ls st M x := Rs_ite c229_6 rfl
theorem c229_9 : qx_code 229 9 = some (9, .aload_n 0, 10, 0, 0, 0) := by decide +kernel
theorem s229_9 {L : Nat} {xs : Nat → Int32} {d x : Nat} {M : qxM} {st : List Value} {a1 a2 : Option Value} {z : Nat} : Rs L xs (d) 229 9 [some (.ref z), a1, a2] st M x = Rs L xs (d) 229 10 [some (.ref z), a1, a2] (.ref z :: st) M x := Rs_next c229_9 rfl
theorem c229_10 : qx_code 229 10 = some (10, .iload_n 1, 11, 0, 0, 0) := by decide +kernel
theorem s229_10 {L : Nat} {xs : Nat → Int32} {d x : Nat} {M : qxM} {st : List Value} {a0 a2 : Option Value} {z : Int32} : Rs L xs (d) 229 10 [a0, some (.int z), a2] st M x = Rs L xs (d) 229 11 [a0, some (.int z), a2] (.int z :: st) M x := Rs_next c229_10 rfl
theorem c229_11 : qx_code 229 11 = some (11, .iload_n 2, 12, 0, 0, 0) := by decide +kernel
theorem s229_11 {L : Nat} {xs : Nat → Int32} {d x : Nat} {M : qxM} {st : List Value} {a0 a1 : Option Value} {z : Int32} : Rs L xs (d) 229 11 [a0, a1, some (.int z)] st M x = Rs L xs (d) 229 12 [a0, a1, some (.int z)] (.int z :: st) M x := Rs_next c229_11 rfl
theorem c229_12 : qx_code 229 12 = some (12, .invokevirtual 197, 15, 216, 3, 1745) := by decide +kernel
theorem s229_12 {L : Nat} {xs : Nat → Int32} {d x : Nat} {M : qxM} {st : List Value} {ls : qxL} {t : Nat} {z0 : Int32} {z1 : Int32} (hk : qx_kd t = 18) (hs : st.length ≤ 4) : Rs L xs (d + 1) 229 12 ls (.int z1 :: .int z0 :: .ref t :: st) M x = (Rs L xs d 216 0 [some (.ref t), some (.int z0), some (.int z1)] [] M 0).bind (qx_kn L xs (d + 1) 229 12 15 216 ls st x) := by
  have h1 : qx_act L xs (qx_rt 229) (12, .invokevirtual 197, 15, 216, 3, 1745) ls (.int z1 :: .int z0 :: .ref t :: st) M = if 3 ≤ (.int z1 :: .int z0 :: .ref t :: st).length ∧ st.length ≤ 4 then some (.inr (.inr (.inr (216, [.ref t, .int z0, .int z1], st)))) else none := rfl
  rw [if_pos ⟨by simp [List.length_cons]; try omega, hs⟩] at h1
  have h2 := qx_kd_obj (k := 8) (by decide) hk
  exact Rs_call c229_12 h1 (by rw [show qx_args 216 [.ref t, .int z0, .int z1] = decide (qx_sh t = some (.inl 8)) from rfl]; exact decide_eq_true h2)
theorem c229_15 : qx_code 229 15 = some (15, .ifCond .eq 7, 18, 22, 0, 0) := by decide +kernel
theorem s229_15 {L : Nat} {xs : Nat → Int32} {d x : Nat} {M : qxM} {st : List Value} {ls : qxL} {z : Int32} : Rs L xs (d) 229 15 ls (.int z :: st) M x = if z = 0 then Rs L xs (d) 229 22 ls st M x else Rs L xs (d) 229 18 ls st M x := Rs_ite c229_15 rfl
theorem c229_18 : qx_code 229 18 = some (18, .iconst 1, 19, 0, 0, 0) := by decide +kernel
theorem s229_18 {L : Nat} {xs : Nat → Int32} {d x : Nat} {M : qxM} {st : List Value} {ls : qxL} : Rs L xs (d) 229 18 ls st M x = Rs L xs (d) 229 19 ls (.int (nI 1) :: st) M x := Rs_next c229_18 rfl
theorem c229_19 : qx_code 229 19 = some (19, .goto 4, 22, 23, 0, 0) := by decide +kernel
theorem s229_19 {L : Nat} {xs : Nat → Int32} {d x : Nat} {M : qxM} {st : List Value} {ls : qxL} : Rs L xs (d) 229 19 ls st M x = Rs L xs (d) 229 23 ls st M x := Rs_next c229_19 rfl
theorem c229_22 : qx_code 229 22 = some (22, .iconst 0, 23, 0, 0, 0) := by decide +kernel
theorem s229_22 {L : Nat} {xs : Nat → Int32} {d x : Nat} {M : qxM} {st : List Value} {ls : qxL} : Rs L xs (d) 229 22 ls st M x = Rs L xs (d) 229 23 ls (.int (nI 0) :: st) M x := Rs_next c229_22 rfl
theorem c229_23 : qx_code 229 23 = some (23, .ireturn, 24, 0, 0, 0) := by decide +kernel
theorem s229_23 {L : Nat} {xs : Nat → Int32} {d x : Nat} {M : qxM} {ls : qxL} {z : Int32} (h01 : z = 0 ∨ z = 1) : Rs L xs (d) 229 23 ls [.int z] M x = some (.inl (some (.int z)), M, x) := Rs_retw h01 c229_23 rfl
theorem c230_0 : qx_code 230 0 = some (0, .aload_n 0, 1, 0, 0, 0) := by decide +kernel
theorem s230_0 {L : Nat} {xs : Nat → Int32} {d x : Nat} {M : qxM} {st : List Value} {a1 a2 a3 a4 : Option Value} {z : Nat} : Rs L xs (d) 230 0 [some (.ref z), a1, a2, a3, a4] st M x = Rs L xs (d) 230 1 [some (.ref z), a1, a2, a3, a4] (.ref z :: st) M x := Rs_next c230_0 rfl
theorem c230_1 : qx_code 230 1 = some (1, .iload_n 1, 2, 0, 0, 0) := by decide +kernel
theorem s230_1 {L : Nat} {xs : Nat → Int32} {d x : Nat} {M : qxM} {st : List Value} {a0 a2 a3 a4 : Option Value} {z : Int32} : Rs L xs (d) 230 1 [a0, some (.int z), a2, a3, a4] st M x = Rs L xs (d) 230 2 [a0, some (.int z), a2, a3, a4] (.int z :: st) M x := Rs_next c230_1 rfl
theorem c230_2 : qx_code 230 2 = some (2, .invokevirtual 232, 5, 226, 2, 1819) := by decide +kernel
theorem s230_2 {L : Nat} {xs : Nat → Int32} {d x : Nat} {M : qxM} {st : List Value} {ls : qxL} {t : Nat} {z0 : Int32} (hk : qx_kd t = 18) (hs : st.length ≤ 4) : Rs L xs (d + 1) 230 2 ls (.int z0 :: .ref t :: st) M x = (Rs L xs d 226 0 [some (.ref t), some (.int z0)] [] M 0).bind (qx_kn L xs (d + 1) 230 2 5 226 ls st x) := by
  have h1 : qx_act L xs (qx_rt 230) (2, .invokevirtual 232, 5, 226, 2, 1819) ls (.int z0 :: .ref t :: st) M = if 2 ≤ (.int z0 :: .ref t :: st).length ∧ st.length ≤ 4 then some (.inr (.inr (.inr (226, [.ref t, .int z0], st)))) else none := rfl
  rw [if_pos ⟨by simp [List.length_cons]; try omega, hs⟩] at h1
  have h2 := qx_kd_obj (k := 8) (by decide) hk
  exact Rs_call c230_2 h1 (by rw [show qx_args 226 [.ref t, .int z0] = decide (qx_sh t = some (.inl 8)) from rfl]; exact decide_eq_true h2)
theorem c230_5 : qx_code 230 5 = some (5, .ifCond .eq 7, 8, 12, 0, 0) := by decide +kernel
theorem s230_5 {L : Nat} {xs : Nat → Int32} {d x : Nat} {M : qxM} {st : List Value} {ls : qxL} {z : Int32} : Rs L xs (d) 230 5 ls (.int z :: st) M x = if z = 0 then Rs L xs (d) 230 12 ls st M x else Rs L xs (d) 230 8 ls st M x := Rs_ite c230_5 rfl
theorem c230_8 : qx_code 230 8 = some (8, .iload_n 2, 9, 0, 0, 0) := by decide +kernel
theorem s230_8 {L : Nat} {xs : Nat → Int32} {d x : Nat} {M : qxM} {st : List Value} {a0 a1 a3 a4 : Option Value} {z : Int32} : Rs L xs (d) 230 8 [a0, a1, some (.int z), a3, a4] st M x = Rs L xs (d) 230 9 [a0, a1, some (.int z), a3, a4] (.int z :: st) M x := Rs_next c230_8 rfl
theorem c230_9 : qx_code 230 9 = some (9, .ifCond .ge 16, 12, 25, 0, 0) := by decide +kernel
theorem s230_9 {L : Nat} {xs : Nat → Int32} {d x : Nat} {M : qxM} {st : List Value} {ls : qxL} {z : Int32} : Rs L xs (d) 230 9 ls (.int z :: st) M x = if 0 ≤ z then Rs L xs (d) 230 25 ls st M x else Rs L xs (d) 230 12 ls st M x := Rs_ite c230_9 rfl
theorem c230_12 : qx_code 230 12 = some (12, .aload_n 0, 13, 0, 0, 0) := by decide +kernel
theorem s230_12 {L : Nat} {xs : Nat → Int32} {d x : Nat} {M : qxM} {st : List Value} {a1 a2 a3 a4 : Option Value} {z : Nat} : Rs L xs (d) 230 12 [some (.ref z), a1, a2, a3, a4] st M x = Rs L xs (d) 230 13 [some (.ref z), a1, a2, a3, a4] (.ref z :: st) M x := Rs_next c230_12 rfl
theorem c230_13 : qx_code 230 13 = some (13, .getfield 46, 16, 8, 0, 1545) := by decide +kernel
theorem s230_13 {L : Nat} {xs : Nat → Int32} {d x : Nat} {M : qxM} {st : List Value} {ls : qxL} {t : Nat} (hk : qx_kd t = 18) : Rs L xs (d) 230 13 ls (.ref t :: st) M x = Rs L xs (d) 230 16 ls (.int (M.1 t 0) :: st) M x := Rs_when (qx_kd_obj (k := 8) (by decide) hk) c230_13 rfl
theorem c230_16 : qx_code 230 16 = some (16, .ifCond .le 7, 19, 23, 0, 0) := by decide +kernel
theorem s230_16 {L : Nat} {xs : Nat → Int32} {d x : Nat} {M : qxM} {st : List Value} {ls : qxL} {z : Int32} : Rs L xs (d) 230 16 ls (.int z :: st) M x = if z ≤ 0 then Rs L xs (d) 230 23 ls st M x else Rs L xs (d) 230 19 ls st M x := Rs_ite c230_16 rfl
theorem c230_19 : qx_code 230 19 = some (19, .iconst 0, 20, 0, 0, 0) := by decide +kernel
theorem s230_19 {L : Nat} {xs : Nat → Int32} {d x : Nat} {M : qxM} {st : List Value} {ls : qxL} : Rs L xs (d) 230 19 ls st M x = Rs L xs (d) 230 20 ls (.int (nI 0) :: st) M x := Rs_next c230_19 rfl
theorem c230_20 : qx_code 230 20 = some (20, .goto 4, 23, 24, 0, 0) := by decide +kernel
theorem s230_20 {L : Nat} {xs : Nat → Int32} {d x : Nat} {M : qxM} {st : List Value} {ls : qxL} : Rs L xs (d) 230 20 ls st M x = Rs L xs (d) 230 24 ls st M x := Rs_next c230_20 rfl
theorem c230_23 : qx_code 230 23 = some (23, .iconst (-1), 24, 0, 0, 0) := by decide +kernel
theorem s230_23 {L : Nat} {xs : Nat → Int32} {d x : Nat} {M : qxM} {st : List Value} {ls : qxL} : Rs L xs (d) 230 23 ls st M x = Rs L xs (d) 230 24 ls (.int (-1) :: st) M x := Rs_next c230_23 rfl
theorem c230_24 : qx_code 230 24 = some (24, .ireturn, 25, 0, 0, 0) := by decide +kernel
theorem s230_24 {L : Nat} {xs : Nat → Int32} {d x : Nat} {M : qxM} {ls : qxL} {z : Int32} : Rs L xs (d) 230 24 ls [.int z] M x = some (.inl (some (.int z)), M, x) := Rs_ret c230_24 rfl
theorem c230_25 : qx_code 230 25 = some (25, .aload_n 0, 26, 0, 0, 0) := by decide +kernel
theorem s230_25 {L : Nat} {xs : Nat → Int32} {d x : Nat} {M : qxM} {st : List Value} {a1 a2 a3 a4 : Option Value} {z : Nat} : Rs L xs (d) 230 25 [some (.ref z), a1, a2, a3, a4] st M x = Rs L xs (d) 230 26 [some (.ref z), a1, a2, a3, a4] (.ref z :: st) M x := Rs_next c230_25 rfl
theorem c230_26 : qx_code 230 26 = some (26, .iload_n 1, 27, 0, 0, 0) := by decide +kernel
theorem s230_26 {L : Nat} {xs : Nat → Int32} {d x : Nat} {M : qxM} {st : List Value} {a0 a2 a3 a4 : Option Value} {z : Int32} : Rs L xs (d) 230 26 [a0, some (.int z), a2, a3, a4] st M x = Rs L xs (d) 230 27 [a0, some (.int z), a2, a3, a4] (.int z :: st) M x := Rs_next c230_26 rfl
theorem c230_27 : qx_code 230 27 = some (27, .invokevirtual 210, 30, 220, 2, 1781) := by decide +kernel
theorem s230_27 {L : Nat} {xs : Nat → Int32} {d x : Nat} {M : qxM} {st : List Value} {ls : qxL} {t : Nat} {z0 : Int32} (hk : qx_kd t = 18) (hs : st.length ≤ 4) : Rs L xs (d + 1) 230 27 ls (.int z0 :: .ref t :: st) M x = (Rs L xs d 220 0 [some (.ref t), some (.int z0), none, none] [] M 0).bind (qx_kn L xs (d + 1) 230 27 30 220 ls st x) := by
  have h1 : qx_act L xs (qx_rt 230) (27, .invokevirtual 210, 30, 220, 2, 1781) ls (.int z0 :: .ref t :: st) M = if 2 ≤ (.int z0 :: .ref t :: st).length ∧ st.length ≤ 4 then some (.inr (.inr (.inr (220, [.ref t, .int z0], st)))) else none := rfl
  rw [if_pos ⟨by simp [List.length_cons]; try omega, hs⟩] at h1
  have h2 := qx_kd_obj (k := 8) (by decide) hk
  exact Rs_call c230_27 h1 (by rw [show qx_args 220 [.ref t, .int z0] = decide (qx_sh t = some (.inl 8)) from rfl]; exact decide_eq_true h2)
theorem c230_30 : qx_code 230 30 = some (30, .istore_n 3, 31, 0, 0, 0) := by decide +kernel
theorem s230_30i {L : Nat} {xs : Nat → Int32} {d x : Nat} {M : qxM} {st : List Value} {a0 a1 a3 a4 : Option Value} {z : Int32} {y : Int32} : Rs L xs (d) 230 30 [a0, a1, some (.int y), a3, a4] (.int z :: st) M x = Rs L xs (d) 230 31 [a0, a1, some (.int y), some (.int z), a4] st M x := Rs_next c230_30 rfl
theorem s230_30r {L : Nat} {xs : Nat → Int32} {d x : Nat} {M : qxM} {st : List Value} {a0 a1 a3 a4 : Option Value} {z : Int32} {y : Nat} : Rs L xs (d) 230 30 [a0, a1, some (.ref y), a3, a4] (.int z :: st) M x = Rs L xs (d) 230 31 [a0, a1, some (.ref y), some (.int z), a4] st M x := Rs_next c230_30 rfl
theorem s230_30n {L : Nat} {xs : Nat → Int32} {d x : Nat} {M : qxM} {st : List Value} {a0 a1 a3 a4 : Option Value} {z : Int32} : Rs L xs (d) 230 30 [a0, a1, none, a3, a4] (.int z :: st) M x = Rs L xs (d) 230 31 [a0, a1, none, some (.int z), a4] st M x := Rs_next c230_30 rfl
theorem c230_31 : qx_code 230 31 = some (31, .iconst 0, 32, 0, 0, 0) := by decide +kernel
theorem s230_31 {L : Nat} {xs : Nat → Int32} {d x : Nat} {M : qxM} {st : List Value} {ls : qxL} : Rs L xs (d) 230 31 ls st M x = Rs L xs (d) 230 32 ls (.int (nI 0) :: st) M x := Rs_next c230_31 rfl
theorem c230_32 : qx_code 230 32 = some (32, .istore 4, 34, 0, 0, 0) := by decide +kernel
theorem s230_32i {L : Nat} {xs : Nat → Int32} {d x : Nat} {M : qxM} {st : List Value} {a0 a1 a2 a4 : Option Value} {z : Int32} {y : Int32} : Rs L xs (d) 230 32 [a0, a1, a2, some (.int y), a4] (.int z :: st) M x = Rs L xs (d) 230 34 [a0, a1, a2, some (.int y), some (.int z)] st M x := Rs_next c230_32 rfl
theorem s230_32r {L : Nat} {xs : Nat → Int32} {d x : Nat} {M : qxM} {st : List Value} {a0 a1 a2 a4 : Option Value} {z : Int32} {y : Nat} : Rs L xs (d) 230 32 [a0, a1, a2, some (.ref y), a4] (.int z :: st) M x = Rs L xs (d) 230 34 [a0, a1, a2, some (.ref y), some (.int z)] st M x := Rs_next c230_32 rfl
theorem s230_32n {L : Nat} {xs : Nat → Int32} {d x : Nat} {M : qxM} {st : List Value} {a0 a1 a2 a4 : Option Value} {z : Int32} : Rs L xs (d) 230 32 [a0, a1, a2, none, a4] (.int z :: st) M x = Rs L xs (d) 230 34 [a0, a1, a2, none, some (.int z)] st M x := Rs_next c230_32 rfl
theorem c230_34 : qx_code 230 34 = some (34, .iload 4, 36, 0, 0, 0) := by decide +kernel
theorem s230_34 {L : Nat} {xs : Nat → Int32} {d x : Nat} {M : qxM} {st : List Value} {a0 a1 a2 a3 : Option Value} {z : Int32} : Rs L xs (d) 230 34 [a0, a1, a2, a3, some (.int z)] st M x = Rs L xs (d) 230 36 [a0, a1, a2, a3, some (.int z)] (.int z :: st) M x := Rs_next c230_34 rfl
theorem c230_36 : qx_code 230 36 = some (36, .iload_n 2, 37, 0, 0, 0) := by decide +kernel
theorem s230_36 {L : Nat} {xs : Nat → Int32} {d x : Nat} {M : qxM} {st : List Value} {a0 a1 a3 a4 : Option Value} {z : Int32} : Rs L xs (d) 230 36 [a0, a1, some (.int z), a3, a4] st M x = Rs L xs (d) 230 37 [a0, a1, some (.int z), a3, a4] (.int z :: st) M x := Rs_next c230_36 rfl
theorem c230_37 : qx_code 230 37 = some (37, .if_icmp .ge 19, 40, 56, 0, 0) := by decide +kernel
theorem s230_37 {L : Nat} {xs : Nat → Int32} {d x : Nat} {M : qxM} {st : List Value} {ls : qxL} {z y : Int32} : Rs L xs (d) 230 37 ls (.int y :: .int z :: st) M x = if y ≤ z then Rs L xs (d) 230 56 ls st M x else Rs L xs (d) 230 40 ls st M x := Rs_ite c230_37 rfl
theorem c230_40 : qx_code 230 40 = some (40, .iload_n 3, 41, 0, 0, 0) := by decide +kernel
theorem s230_40 {L : Nat} {xs : Nat → Int32} {d x : Nat} {M : qxM} {st : List Value} {a0 a1 a2 a4 : Option Value} {z : Int32} : Rs L xs (d) 230 40 [a0, a1, a2, some (.int z), a4] st M x = Rs L xs (d) 230 41 [a0, a1, a2, some (.int z), a4] (.int z :: st) M x := Rs_next c230_40 rfl
theorem c230_41 : qx_code 230 41 = some (41, .ifCond .eq 15, 44, 56, 0, 0) := by decide +kernel
theorem s230_41 {L : Nat} {xs : Nat → Int32} {d x : Nat} {M : qxM} {st : List Value} {ls : qxL} {z : Int32} : Rs L xs (d) 230 41 ls (.int z :: st) M x = if z = 0 then Rs L xs (d) 230 56 ls st M x else Rs L xs (d) 230 44 ls st M x := Rs_ite c230_41 rfl
theorem c230_44 : qx_code 230 44 = some (44, .iload_n 3, 45, 0, 0, 0) := by decide +kernel
theorem s230_44 {L : Nat} {xs : Nat → Int32} {d x : Nat} {M : qxM} {st : List Value} {a0 a1 a2 a4 : Option Value} {z : Int32} : Rs L xs (d) 230 44 [a0, a1, a2, some (.int z), a4] st M x = Rs L xs (d) 230 45 [a0, a1, a2, some (.int z), a4] (.int z :: st) M x := Rs_next c230_44 rfl
theorem c230_45 : qx_code 230 45 = some (45, .iload_n 3, 46, 0, 0, 0) := by decide +kernel
theorem s230_45 {L : Nat} {xs : Nat → Int32} {d x : Nat} {M : qxM} {st : List Value} {a0 a1 a2 a4 : Option Value} {z : Int32} : Rs L xs (d) 230 45 [a0, a1, a2, some (.int z), a4] st M x = Rs L xs (d) 230 46 [a0, a1, a2, some (.int z), a4] (.int z :: st) M x := Rs_next c230_45 rfl
theorem c230_46 : qx_code 230 46 = some (46, .iconst 1, 47, 0, 0, 0) := by decide +kernel
theorem s230_46 {L : Nat} {xs : Nat → Int32} {d x : Nat} {M : qxM} {st : List Value} {ls : qxL} : Rs L xs (d) 230 46 ls st M x = Rs L xs (d) 230 47 ls (.int (nI 1) :: st) M x := Rs_next c230_46 rfl
theorem c230_47 : qx_code 230 47 = some (47, .isub, 48, 0, 0, 0) := by decide +kernel
theorem s230_47 {L : Nat} {xs : Nat → Int32} {d x : Nat} {M : qxM} {st : List Value} {ls : qxL} {z y : Int32} : Rs L xs (d) 230 47 ls (.int y :: .int z :: st) M x = Rs L xs (d) 230 48 ls (.int (z - y) :: st) M x := Rs_next c230_47 rfl
theorem c230_48 : qx_code 230 48 = some (48, .iand, 49, 0, 0, 0) := by decide +kernel
theorem s230_48 {L : Nat} {xs : Nat → Int32} {d x : Nat} {M : qxM} {st : List Value} {ls : qxL} {z y : Int32} : Rs L xs (d) 230 48 ls (.int y :: .int z :: st) M x = Rs L xs (d) 230 49 ls (.int (z &&& y) :: st) M x := Rs_next c230_48 rfl
theorem c230_49 : qx_code 230 49 = some (49, .istore_n 3, 50, 0, 0, 0) := by decide +kernel
theorem s230_49i {L : Nat} {xs : Nat → Int32} {d x : Nat} {M : qxM} {st : List Value} {a0 a1 a3 a4 : Option Value} {z : Int32} {y : Int32} : Rs L xs (d) 230 49 [a0, a1, some (.int y), a3, a4] (.int z :: st) M x = Rs L xs (d) 230 50 [a0, a1, some (.int y), some (.int z), a4] st M x := Rs_next c230_49 rfl
theorem s230_49r {L : Nat} {xs : Nat → Int32} {d x : Nat} {M : qxM} {st : List Value} {a0 a1 a3 a4 : Option Value} {z : Int32} {y : Nat} : Rs L xs (d) 230 49 [a0, a1, some (.ref y), a3, a4] (.int z :: st) M x = Rs L xs (d) 230 50 [a0, a1, some (.ref y), some (.int z), a4] st M x := Rs_next c230_49 rfl
theorem s230_49n {L : Nat} {xs : Nat → Int32} {d x : Nat} {M : qxM} {st : List Value} {a0 a1 a3 a4 : Option Value} {z : Int32} : Rs L xs (d) 230 49 [a0, a1, none, a3, a4] (.int z :: st) M x = Rs L xs (d) 230 50 [a0, a1, none, some (.int z), a4] st M x := Rs_next c230_49 rfl
theorem c230_50 : qx_code 230 50 = some (50, .iinc 4 1, 53, 0, 0, 0) := by decide +kernel
theorem s230_50i {L : Nat} {xs : Nat → Int32} {d x : Nat} {M : qxM} {st : List Value} {a0 a1 a2 : Option Value} {z : Int32} {y : Int32} : Rs L xs (d) 230 50 [a0, a1, a2, some (.int y), some (.int z)] st M x = Rs L xs (d) 230 53 [a0, a1, a2, some (.int y), some (.int (z + (nI 1)))] st M x := Rs_next c230_50 rfl
theorem s230_50r {L : Nat} {xs : Nat → Int32} {d x : Nat} {M : qxM} {st : List Value} {a0 a1 a2 : Option Value} {z : Int32} {y : Nat} : Rs L xs (d) 230 50 [a0, a1, a2, some (.ref y), some (.int z)] st M x = Rs L xs (d) 230 53 [a0, a1, a2, some (.ref y), some (.int (z + (nI 1)))] st M x := Rs_next c230_50 rfl
theorem s230_50n {L : Nat} {xs : Nat → Int32} {d x : Nat} {M : qxM} {st : List Value} {a0 a1 a2 : Option Value} {z : Int32} : Rs L xs (d) 230 50 [a0, a1, a2, none, some (.int z)] st M x = Rs L xs (d) 230 53 [a0, a1, a2, none, some (.int (z + (nI 1)))] st M x := Rs_next c230_50 rfl
theorem c230_53 : qx_code 230 53 = some (53, .goto (-19), 56, 34, 0, 0) := by decide +kernel
theorem s230_53 {L : Nat} {xs : Nat → Int32} {d x : Nat} {M : qxM} {st : List Value} {ls : qxL} : Rs L xs (d) 230 53 ls st M x = Rs L xs (d) 230 34 ls st M x := Rs_next c230_53 rfl
theorem c230_56 : qx_code 230 56 = some (56, .iload_n 3, 57, 0, 0, 0) := by decide +kernel
theorem s230_56 {L : Nat} {xs : Nat → Int32} {d x : Nat} {M : qxM} {st : List Value} {a0 a1 a2 a4 : Option Value} {z : Int32} : Rs L xs (d) 230 56 [a0, a1, a2, some (.int z), a4] st M x = Rs L xs (d) 230 57 [a0, a1, a2, some (.int z), a4] (.int z :: st) M x := Rs_next c230_56 rfl
theorem c230_57 : qx_code 230 57 = some (57, .ifCond .ne 7, 60, 64, 0, 0) := by decide +kernel
theorem s230_57 {L : Nat} {xs : Nat → Int32} {d x : Nat} {M : qxM} {st : List Value} {ls : qxL} {z : Int32} : Rs L xs (d) 230 57 ls (.int z :: st) M x = if z = 0 then Rs L xs (d) 230 60 ls st M x else Rs L xs (d) 230 64 ls st M x := Rs_ite c230_57 rfl
theorem c230_60 : qx_code 230 60 = some (60, .iconst (-1), 61, 0, 0, 0) := by decide +kernel
theorem s230_60 {L : Nat} {xs : Nat → Int32} {d x : Nat} {M : qxM} {st : List Value} {ls : qxL} : Rs L xs (d) 230 60 ls st M x = Rs L xs (d) 230 61 ls (.int (-1) :: st) M x := Rs_next c230_60 rfl
theorem c230_61 : qx_code 230 61 = some (61, .goto 7, 64, 68, 0, 0) := by decide +kernel
theorem s230_61 {L : Nat} {xs : Nat → Int32} {d x : Nat} {M : qxM} {st : List Value} {ls : qxL} : Rs L xs (d) 230 61 ls st M x = Rs L xs (d) 230 68 ls st M x := Rs_next c230_61 rfl
theorem c230_64 : qx_code 230 64 = some (64, .iload_n 3, 65, 0, 0, 0) := by decide +kernel
theorem s230_64 {L : Nat} {xs : Nat → Int32} {d x : Nat} {M : qxM} {st : List Value} {a0 a1 a2 a4 : Option Value} {z : Int32} : Rs L xs (d) 230 64 [a0, a1, a2, some (.int z), a4] st M x = Rs L xs (d) 230 65 [a0, a1, a2, some (.int z), a4] (.int z :: st) M x := Rs_next c230_64 rfl
theorem c230_65 : qx_code 230 65 = some (65, .invokestatic 235, 68, 210, 1, 1823) := by decide +kernel
theorem s230_65 {L : Nat} {xs : Nat → Int32} {d x : Nat} {M : qxM} {st : List Value} {ls : qxL} {z0 : Int32} (hs : st.length ≤ 4) : Rs L xs (d + 1) 230 65 ls (.int z0 :: st) M x = (Rs L xs d 210 0 [some (.int z0)] [] M 0).bind (qx_kn L xs (d + 1) 230 65 68 210 ls st x) := by
  have h1 : qx_act L xs (qx_rt 230) (65, .invokestatic 235, 68, 210, 1, 1823) ls (.int z0 :: st) M = if 1 ≤ (.int z0 :: st).length ∧ st.length ≤ 4 then some (.inr (.inr (.inr (210, [.int z0], st)))) else none := rfl
  rw [if_pos ⟨by simp [List.length_cons]; try omega, hs⟩] at h1
  exact Rs_call c230_65 h1 rfl
theorem c230_68 : qx_code 230 68 = some (68, .ireturn, 69, 0, 0, 0) := by decide +kernel
theorem s230_68 {L : Nat} {xs : Nat → Int32} {d x : Nat} {M : qxM} {ls : qxL} {z : Int32} : Rs L xs (d) 230 68 ls [.int z] M x = some (.inl (some (.int z)), M, x) := Rs_ret c230_68 rfl
theorem c231_0 : qx_code 231 0 = some (0, .iload_n 1, 1, 0, 0, 0) := by decide +kernel
theorem s231_0 {L : Nat} {xs : Nat → Int32} {d x : Nat} {M : qxM} {st : List Value} {a0 a2 : Option Value} {z : Int32} : Rs L xs (d) 231 0 [a0, some (.int z), a2] st M x = Rs L xs (d) 231 1 [a0, some (.int z), a2] (.int z :: st) M x := Rs_next c231_0 rfl
theorem c231_1 : qx_code 231 1 = some (1, .iload_n 2, 2, 0, 0, 0) := by decide +kernel
theorem s231_1 {L : Nat} {xs : Nat → Int32} {d x : Nat} {M : qxM} {st : List Value} {a0 a1 : Option Value} {z : Int32} : Rs L xs (d) 231 1 [a0, a1, some (.int z)] st M x = Rs L xs (d) 231 2 [a0, a1, some (.int z)] (.int z :: st) M x := Rs_next c231_1 rfl
theorem c231_2 : qx_code 231 2 = some (2, .if_icmp .ne 5, 5, 7, 0, 0) := by decide +kernel
theorem s231_2 {L : Nat} {xs : Nat → Int32} {d x : Nat} {M : qxM} {st : List Value} {ls : qxL} {z y : Int32} : Rs L xs (d) 231 2 ls (.int y :: .int z :: st) M x = if z = y then Rs L xs (d) 231 5 ls st M x else Rs L xs (d) 231 7 ls st M x := Rs_ite c231_2 rfl
theorem c231_5 : qx_code 231 5 = some (5, .iconst 1, 6, 0, 0, 0) := by decide +kernel
theorem s231_5 {L : Nat} {xs : Nat → Int32} {d x : Nat} {M : qxM} {st : List Value} {ls : qxL} : Rs L xs (d) 231 5 ls st M x = Rs L xs (d) 231 6 ls (.int (nI 1) :: st) M x := Rs_next c231_5 rfl
theorem c231_6 : qx_code 231 6 = some (6, .ireturn, 7, 0, 0, 0) := by decide +kernel
theorem s231_6 {L : Nat} {xs : Nat → Int32} {d x : Nat} {M : qxM} {ls : qxL} {z : Int32} : Rs L xs (d) 231 6 ls [.int z] M x = some (.inl (some (.int z)), M, x) := Rs_ret c231_6 rfl
theorem c231_7 : qx_code 231 7 = some (7, .aload_n 0, 8, 0, 0, 0) := by decide +kernel
theorem s231_7 {L : Nat} {xs : Nat → Int32} {d x : Nat} {M : qxM} {st : List Value} {a1 a2 : Option Value} {z : Nat} : Rs L xs (d) 231 7 [some (.ref z), a1, a2] st M x = Rs L xs (d) 231 8 [some (.ref z), a1, a2] (.ref z :: st) M x := Rs_next c231_7 rfl
theorem c231_8 : qx_code 231 8 = some (8, .iload_n 1, 9, 0, 0, 0) := by decide +kernel
theorem s231_8 {L : Nat} {xs : Nat → Int32} {d x : Nat} {M : qxM} {st : List Value} {a0 a2 : Option Value} {z : Int32} : Rs L xs (d) 231 8 [a0, some (.int z), a2] st M x = Rs L xs (d) 231 9 [a0, some (.int z), a2] (.int z :: st) M x := Rs_next c231_8 rfl
theorem c231_9 : qx_code 231 9 = some (9, .iload_n 2, 10, 0, 0, 0) := by decide +kernel
theorem s231_9 {L : Nat} {xs : Nat → Int32} {d x : Nat} {M : qxM} {st : List Value} {a0 a1 : Option Value} {z : Int32} : Rs L xs (d) 231 9 [a0, a1, some (.int z)] st M x = Rs L xs (d) 231 10 [a0, a1, some (.int z)] (.int z :: st) M x := Rs_next c231_9 rfl
theorem c231_10 : qx_code 231 10 = some (10, .invokevirtual 197, 13, 216, 3, 1745) := by decide +kernel
theorem s231_10 {L : Nat} {xs : Nat → Int32} {d x : Nat} {M : qxM} {st : List Value} {ls : qxL} {t : Nat} {z0 : Int32} {z1 : Int32} (hk : qx_kd t = 18) (hs : st.length ≤ 4) : Rs L xs (d + 1) 231 10 ls (.int z1 :: .int z0 :: .ref t :: st) M x = (Rs L xs d 216 0 [some (.ref t), some (.int z0), some (.int z1)] [] M 0).bind (qx_kn L xs (d + 1) 231 10 13 216 ls st x) := by
  have h1 : qx_act L xs (qx_rt 231) (10, .invokevirtual 197, 13, 216, 3, 1745) ls (.int z1 :: .int z0 :: .ref t :: st) M = if 3 ≤ (.int z1 :: .int z0 :: .ref t :: st).length ∧ st.length ≤ 4 then some (.inr (.inr (.inr (216, [.ref t, .int z0, .int z1], st)))) else none := rfl
  rw [if_pos ⟨by simp [List.length_cons]; try omega, hs⟩] at h1
  have h2 := qx_kd_obj (k := 8) (by decide) hk
  exact Rs_call c231_10 h1 (by rw [show qx_args 216 [.ref t, .int z0, .int z1] = decide (qx_sh t = some (.inl 8)) from rfl]; exact decide_eq_true h2)
theorem c231_13 : qx_code 231 13 = some (13, .ifCond .ne 5, 16, 18, 0, 0) := by decide +kernel
theorem s231_13 {L : Nat} {xs : Nat → Int32} {d x : Nat} {M : qxM} {st : List Value} {ls : qxL} {z : Int32} : Rs L xs (d) 231 13 ls (.int z :: st) M x = if z = 0 then Rs L xs (d) 231 16 ls st M x else Rs L xs (d) 231 18 ls st M x := Rs_ite c231_13 rfl
theorem c231_16 : qx_code 231 16 = some (16, .iconst 2, 17, 0, 0, 0) := by decide +kernel
theorem s231_16 {L : Nat} {xs : Nat → Int32} {d x : Nat} {M : qxM} {st : List Value} {ls : qxL} : Rs L xs (d) 231 16 ls st M x = Rs L xs (d) 231 17 ls (.int (nI 2) :: st) M x := Rs_next c231_16 rfl
theorem c231_17 : qx_code 231 17 = some (17, .ireturn, 18, 0, 0, 0) := by decide +kernel
theorem s231_17 {L : Nat} {xs : Nat → Int32} {d x : Nat} {M : qxM} {ls : qxL} {z : Int32} : Rs L xs (d) 231 17 ls [.int z] M x = some (.inl (some (.int z)), M, x) := Rs_ret c231_17 rfl
theorem c231_18 : qx_code 231 18 = some (18, .aload_n 0, 19, 0, 0, 0) := by decide +kernel
theorem s231_18 {L : Nat} {xs : Nat → Int32} {d x : Nat} {M : qxM} {st : List Value} {a1 a2 : Option Value} {z : Nat} : Rs L xs (d) 231 18 [some (.ref z), a1, a2] st M x = Rs L xs (d) 231 19 [some (.ref z), a1, a2] (.ref z :: st) M x := Rs_next c231_18 rfl
theorem c231_19 : qx_code 231 19 = some (19, .iload_n 1, 20, 0, 0, 0) := by decide +kernel
theorem s231_19 {L : Nat} {xs : Nat → Int32} {d x : Nat} {M : qxM} {st : List Value} {a0 a2 : Option Value} {z : Int32} : Rs L xs (d) 231 19 [a0, some (.int z), a2] st M x = Rs L xs (d) 231 20 [a0, some (.int z), a2] (.int z :: st) M x := Rs_next c231_19 rfl
theorem c231_20 : qx_code 231 20 = some (20, .iload_n 2, 21, 0, 0, 0) := by decide +kernel
theorem s231_20 {L : Nat} {xs : Nat → Int32} {d x : Nat} {M : qxM} {st : List Value} {a0 a1 : Option Value} {z : Int32} : Rs L xs (d) 231 20 [a0, a1, some (.int z)] st M x = Rs L xs (d) 231 21 [a0, a1, some (.int z)] (.int z :: st) M x := Rs_next c231_20 rfl
theorem c231_21 : qx_code 231 21 = some (21, .invokevirtual 200, 24, 218, 3, 1749) := by decide +kernel
theorem s231_21 {L : Nat} {xs : Nat → Int32} {d x : Nat} {M : qxM} {st : List Value} {ls : qxL} {t : Nat} {z0 : Int32} {z1 : Int32} (hk : qx_kd t = 18) (hs : st.length ≤ 4) : Rs L xs (d + 1) 231 21 ls (.int z1 :: .int z0 :: .ref t :: st) M x = (Rs L xs d 218 0 [some (.ref t), some (.int z0), some (.int z1)] [] M 0).bind (qx_kn L xs (d + 1) 231 21 24 218 ls st x) := by
  have h1 : qx_act L xs (qx_rt 231) (21, .invokevirtual 200, 24, 218, 3, 1749) ls (.int z1 :: .int z0 :: .ref t :: st) M = if 3 ≤ (.int z1 :: .int z0 :: .ref t :: st).length ∧ st.length ≤ 4 then some (.inr (.inr (.inr (218, [.ref t, .int z0, .int z1], st)))) else none := rfl
  rw [if_pos ⟨by simp [List.length_cons]; try omega, hs⟩] at h1
  have h2 := qx_kd_obj (k := 8) (by decide) hk
  exact Rs_call c231_21 h1 (by rw [show qx_args 218 [.ref t, .int z0, .int z1] = decide (qx_sh t = some (.inl 8)) from rfl]; exact decide_eq_true h2)
theorem c231_24 : qx_code 231 24 = some (24, .ifCond .ne 5, 27, 29, 0, 0) := by decide +kernel
theorem s231_24 {L : Nat} {xs : Nat → Int32} {d x : Nat} {M : qxM} {st : List Value} {ls : qxL} {z : Int32} : Rs L xs (d) 231 24 ls (.int z :: st) M x = if z = 0 then Rs L xs (d) 231 27 ls st M x else Rs L xs (d) 231 29 ls st M x := Rs_ite c231_24 rfl
theorem c231_27 : qx_code 231 27 = some (27, .iconst 3, 28, 0, 0, 0) := by decide +kernel
theorem s231_27 {L : Nat} {xs : Nat → Int32} {d x : Nat} {M : qxM} {st : List Value} {ls : qxL} : Rs L xs (d) 231 27 ls st M x = Rs L xs (d) 231 28 ls (.int (nI 3) :: st) M x := Rs_next c231_27 rfl
theorem c231_28 : qx_code 231 28 = some (28, .ireturn, 29, 0, 0, 0) := by decide +kernel
theorem s231_28 {L : Nat} {xs : Nat → Int32} {d x : Nat} {M : qxM} {ls : qxL} {z : Int32} : Rs L xs (d) 231 28 ls [.int z] M x = some (.inl (some (.int z)), M, x) := Rs_ret c231_28 rfl
theorem c231_29 : qx_code 231 29 = some (29, .aload_n 0, 30, 0, 0, 0) := by decide +kernel
theorem s231_29 {L : Nat} {xs : Nat → Int32} {d x : Nat} {M : qxM} {st : List Value} {a1 a2 : Option Value} {z : Nat} : Rs L xs (d) 231 29 [some (.ref z), a1, a2] st M x = Rs L xs (d) 231 30 [some (.ref z), a1, a2] (.ref z :: st) M x := Rs_next c231_29 rfl
theorem c231_30 : qx_code 231 30 = some (30, .iload_n 1, 31, 0, 0, 0) := by decide +kernel
theorem s231_30 {L : Nat} {xs : Nat → Int32} {d x : Nat} {M : qxM} {st : List Value} {a0 a2 : Option Value} {z : Int32} : Rs L xs (d) 231 30 [a0, some (.int z), a2] st M x = Rs L xs (d) 231 31 [a0, some (.int z), a2] (.int z :: st) M x := Rs_next c231_30 rfl
theorem c231_31 : qx_code 231 31 = some (31, .invokevirtual 132, 34, 213, 2, 1737) := by decide +kernel
theorem s231_31 {L : Nat} {xs : Nat → Int32} {d x : Nat} {M : qxM} {st : List Value} {ls : qxL} {t : Nat} {z0 : Int32} (hk : qx_kd t = 18) (hs : st.length ≤ 4) : Rs L xs (d + 1) 231 31 ls (.int z0 :: .ref t :: st) M x = (Rs L xs d 213 0 [some (.ref t), some (.int z0)] [] M 0).bind (qx_kn L xs (d + 1) 231 31 34 213 ls st x) := by
  have h1 : qx_act L xs (qx_rt 231) (31, .invokevirtual 132, 34, 213, 2, 1737) ls (.int z0 :: .ref t :: st) M = if 2 ≤ (.int z0 :: .ref t :: st).length ∧ st.length ≤ 4 then some (.inr (.inr (.inr (213, [.ref t, .int z0], st)))) else none := rfl
  rw [if_pos ⟨by simp [List.length_cons]; try omega, hs⟩] at h1
  have h2 := qx_kd_obj (k := 8) (by decide) hk
  exact Rs_call c231_31 h1 (by rw [show qx_args 213 [.ref t, .int z0] = decide (qx_sh t = some (.inl 8)) from rfl]; exact decide_eq_true h2)
theorem c231_34 : qx_code 231 34 = some (34, .iconst (-1), 35, 0, 0, 0) := by decide +kernel
theorem s231_34 {L : Nat} {xs : Nat → Int32} {d x : Nat} {M : qxM} {st : List Value} {ls : qxL} : Rs L xs (d) 231 34 ls st M x = Rs L xs (d) 231 35 ls (.int (-1) :: st) M x := Rs_next c231_34 rfl
theorem c231_35 : qx_code 231 35 = some (35, .if_icmp .eq 7, 38, 42, 0, 0) := by decide +kernel
theorem s231_35 {L : Nat} {xs : Nat → Int32} {d x : Nat} {M : qxM} {st : List Value} {ls : qxL} {z y : Int32} : Rs L xs (d) 231 35 ls (.int y :: .int z :: st) M x = if z = y then Rs L xs (d) 231 42 ls st M x else Rs L xs (d) 231 38 ls st M x := Rs_ite c231_35 rfl
theorem c231_38 : qx_code 231 38 = some (38, .iconst 4, 39, 0, 0, 0) := by decide +kernel
theorem s231_38 {L : Nat} {xs : Nat → Int32} {d x : Nat} {M : qxM} {st : List Value} {ls : qxL} : Rs L xs (d) 231 38 ls st M x = Rs L xs (d) 231 39 ls (.int (nI 4) :: st) M x := Rs_next c231_38 rfl
theorem c231_39 : qx_code 231 39 = some (39, .goto 17, 42, 56, 0, 0) := by decide +kernel
theorem s231_39 {L : Nat} {xs : Nat → Int32} {d x : Nat} {M : qxM} {st : List Value} {ls : qxL} : Rs L xs (d) 231 39 ls st M x = Rs L xs (d) 231 56 ls st M x := Rs_next c231_39 rfl
theorem c231_42 : qx_code 231 42 = some (42, .aload_n 0, 43, 0, 0, 0) := by decide +kernel
theorem s231_42 {L : Nat} {xs : Nat → Int32} {d x : Nat} {M : qxM} {st : List Value} {a1 a2 : Option Value} {z : Nat} : Rs L xs (d) 231 42 [some (.ref z), a1, a2] st M x = Rs L xs (d) 231 43 [some (.ref z), a1, a2] (.ref z :: st) M x := Rs_next c231_42 rfl
theorem c231_43 : qx_code 231 43 = some (43, .iload_n 2, 44, 0, 0, 0) := by decide +kernel
theorem s231_43 {L : Nat} {xs : Nat → Int32} {d x : Nat} {M : qxM} {st : List Value} {a0 a1 : Option Value} {z : Int32} : Rs L xs (d) 231 43 [a0, a1, some (.int z)] st M x = Rs L xs (d) 231 44 [a0, a1, some (.int z)] (.int z :: st) M x := Rs_next c231_43 rfl
theorem c231_44 : qx_code 231 44 = some (44, .invokevirtual 132, 47, 213, 2, 1737) := by decide +kernel
theorem s231_44 {L : Nat} {xs : Nat → Int32} {d x : Nat} {M : qxM} {st : List Value} {ls : qxL} {t : Nat} {z0 : Int32} (hk : qx_kd t = 18) (hs : st.length ≤ 4) : Rs L xs (d + 1) 231 44 ls (.int z0 :: .ref t :: st) M x = (Rs L xs d 213 0 [some (.ref t), some (.int z0)] [] M 0).bind (qx_kn L xs (d + 1) 231 44 47 213 ls st x) := by
  have h1 : qx_act L xs (qx_rt 231) (44, .invokevirtual 132, 47, 213, 2, 1737) ls (.int z0 :: .ref t :: st) M = if 2 ≤ (.int z0 :: .ref t :: st).length ∧ st.length ≤ 4 then some (.inr (.inr (.inr (213, [.ref t, .int z0], st)))) else none := rfl
  rw [if_pos ⟨by simp [List.length_cons]; try omega, hs⟩] at h1
  have h2 := qx_kd_obj (k := 8) (by decide) hk
  exact Rs_call c231_44 h1 (by rw [show qx_args 213 [.ref t, .int z0] = decide (qx_sh t = some (.inl 8)) from rfl]; exact decide_eq_true h2)
theorem c231_47 : qx_code 231 47 = some (47, .iconst (-1), 48, 0, 0, 0) := by decide +kernel
theorem s231_47 {L : Nat} {xs : Nat → Int32} {d x : Nat} {M : qxM} {st : List Value} {ls : qxL} : Rs L xs (d) 231 47 ls st M x = Rs L xs (d) 231 48 ls (.int (-1) :: st) M x := Rs_next c231_47 rfl
theorem c231_48 : qx_code 231 48 = some (48, .if_icmp .eq 7, 51, 55, 0, 0) := by decide +kernel
theorem s231_48 {L : Nat} {xs : Nat → Int32} {d x : Nat} {M : qxM} {st : List Value} {ls : qxL} {z y : Int32} : Rs L xs (d) 231 48 ls (.int y :: .int z :: st) M x = if z = y then Rs L xs (d) 231 55 ls st M x else Rs L xs (d) 231 51 ls st M x := Rs_ite c231_48 rfl
theorem c231_51 : qx_code 231 51 = some (51, .iconst 5, 52, 0, 0, 0) := by decide +kernel
theorem s231_51 {L : Nat} {xs : Nat → Int32} {d x : Nat} {M : qxM} {st : List Value} {ls : qxL} : Rs L xs (d) 231 51 ls st M x = Rs L xs (d) 231 52 ls (.int (nI 5) :: st) M x := Rs_next c231_51 rfl
theorem c231_52 : qx_code 231 52 = some (52, .goto 4, 55, 56, 0, 0) := by decide +kernel
theorem s231_52 {L : Nat} {xs : Nat → Int32} {d x : Nat} {M : qxM} {st : List Value} {ls : qxL} : Rs L xs (d) 231 52 ls st M x = Rs L xs (d) 231 56 ls st M x := Rs_next c231_52 rfl
theorem c231_55 : qx_code 231 55 = some (55, .iconst 0, 56, 0, 0, 0) := by decide +kernel
theorem s231_55 {L : Nat} {xs : Nat → Int32} {d x : Nat} {M : qxM} {st : List Value} {ls : qxL} : Rs L xs (d) 231 55 ls st M x = Rs L xs (d) 231 56 ls (.int (nI 0) :: st) M x := Rs_next c231_55 rfl
theorem c231_56 : qx_code 231 56 = some (56, .ireturn, 57, 0, 0, 0) := by decide +kernel
theorem s231_56 {L : Nat} {xs : Nat → Int32} {d x : Nat} {M : qxM} {ls : qxL} {z : Int32} : Rs L xs (d) 231 56 ls [.int z] M x = some (.inl (some (.int z)), M, x) := Rs_ret c231_56 rfl
theorem c232_0 : qx_code 232 0 = some (0, .aload_n 0, 1, 0, 0, 0) := by decide +kernel
theorem s232_0 {L : Nat} {xs : Nat → Int32} {d x : Nat} {M : qxM} {st : List Value} {a1 a2 : Option Value} {z : Nat} : Rs L xs (d) 232 0 [some (.ref z), a1, a2] st M x = Rs L xs (d) 232 1 [some (.ref z), a1, a2] (.ref z :: st) M x := Rs_next c232_0 rfl
theorem c232_1 : qx_code 232 1 = some (1, .iload_n 1, 2, 0, 0, 0) := by decide +kernel
theorem s232_1 {L : Nat} {xs : Nat → Int32} {d x : Nat} {M : qxM} {st : List Value} {a0 a2 : Option Value} {z : Int32} : Rs L xs (d) 232 1 [a0, some (.int z), a2] st M x = Rs L xs (d) 232 2 [a0, some (.int z), a2] (.int z :: st) M x := Rs_next c232_1 rfl
theorem c232_2 : qx_code 232 2 = some (2, .iload_n 2, 3, 0, 0, 0) := by decide +kernel
theorem s232_2 {L : Nat} {xs : Nat → Int32} {d x : Nat} {M : qxM} {st : List Value} {a0 a1 : Option Value} {z : Int32} : Rs L xs (d) 232 2 [a0, a1, some (.int z)] st M x = Rs L xs (d) 232 3 [a0, a1, some (.int z)] (.int z :: st) M x := Rs_next c232_2 rfl
theorem c232_3 : qx_code 232 3 = some (3, .invokevirtual 229, 6, 227, 3, 1811) := by decide +kernel
theorem s232_3 {L : Nat} {xs : Nat → Int32} {d x : Nat} {M : qxM} {st : List Value} {ls : qxL} {t : Nat} {z0 : Int32} {z1 : Int32} (hk : qx_kd t = 18) (hs : st.length ≤ 4) : Rs L xs (d + 1) 232 3 ls (.int z1 :: .int z0 :: .ref t :: st) M x = (Rs L xs d 227 0 [some (.ref t), some (.int z0), some (.int z1)] [] M 0).bind (qx_kn L xs (d + 1) 232 3 6 227 ls st x) := by
  have h1 : qx_act L xs (qx_rt 232) (3, .invokevirtual 229, 6, 227, 3, 1811) ls (.int z1 :: .int z0 :: .ref t :: st) M = if 3 ≤ (.int z1 :: .int z0 :: .ref t :: st).length ∧ st.length ≤ 4 then some (.inr (.inr (.inr (227, [.ref t, .int z0, .int z1], st)))) else none := rfl
  rw [if_pos ⟨by simp [List.length_cons]; try omega, hs⟩] at h1
  have h2 := qx_kd_obj (k := 8) (by decide) hk
  exact Rs_call c232_3 h1 (by rw [show qx_args 227 [.ref t, .int z0, .int z1] = decide (qx_sh t = some (.inl 8)) from rfl]; exact decide_eq_true h2)
theorem c232_6 : qx_code 232 6 = some (6, .ifCond .eq 12, 9, 18, 0, 0) := by decide +kernel
theorem s232_6 {L : Nat} {xs : Nat → Int32} {d x : Nat} {M : qxM} {st : List Value} {ls : qxL} {z : Int32} : Rs L xs (d) 232 6 ls (.int z :: st) M x = if z = 0 then Rs L xs (d) 232 18 ls st M x else Rs L xs (d) 232 9 ls st M x := Rs_ite c232_6 rfl
theorem c232_9 : qx_code 232 9 = some (9, .aload_n 0, 10, 0, 0, 0) := by decide +kernel
theorem s232_9 {L : Nat} {xs : Nat → Int32} {d x : Nat} {M : qxM} {st : List Value} {a1 a2 : Option Value} {z : Nat} : Rs L xs (d) 232 9 [some (.ref z), a1, a2] st M x = Rs L xs (d) 232 10 [some (.ref z), a1, a2] (.ref z :: st) M x := Rs_next c232_9 rfl
theorem c232_10 : qx_code 232 10 = some (10, .iload_n 1, 11, 0, 0, 0) := by decide +kernel
theorem s232_10 {L : Nat} {xs : Nat → Int32} {d x : Nat} {M : qxM} {st : List Value} {a0 a2 : Option Value} {z : Int32} : Rs L xs (d) 232 10 [a0, some (.int z), a2] st M x = Rs L xs (d) 232 11 [a0, some (.int z), a2] (.int z :: st) M x := Rs_next c232_10 rfl
theorem c232_11 : qx_code 232 11 = some (11, .iload_n 2, 12, 0, 0, 0) := by decide +kernel
theorem s232_11 {L : Nat} {xs : Nat → Int32} {d x : Nat} {M : qxM} {st : List Value} {a0 a1 : Option Value} {z : Int32} : Rs L xs (d) 232 11 [a0, a1, some (.int z)] st M x = Rs L xs (d) 232 12 [a0, a1, some (.int z)] (.int z :: st) M x := Rs_next c232_11 rfl
theorem c232_12 : qx_code 232 12 = some (12, .invokevirtual 238, 15, 231, 3, 1830) := by decide +kernel
theorem s232_12 {L : Nat} {xs : Nat → Int32} {d x : Nat} {M : qxM} {st : List Value} {ls : qxL} {t : Nat} {z0 : Int32} {z1 : Int32} (hk : qx_kd t = 18) (hs : st.length ≤ 4) : Rs L xs (d + 1) 232 12 ls (.int z1 :: .int z0 :: .ref t :: st) M x = (Rs L xs d 231 0 [some (.ref t), some (.int z0), some (.int z1)] [] M 0).bind (qx_kn L xs (d + 1) 232 12 15 231 ls st x) := by
  have h1 : qx_act L xs (qx_rt 232) (12, .invokevirtual 238, 15, 231, 3, 1830) ls (.int z1 :: .int z0 :: .ref t :: st) M = if 3 ≤ (.int z1 :: .int z0 :: .ref t :: st).length ∧ st.length ≤ 4 then some (.inr (.inr (.inr (231, [.ref t, .int z0, .int z1], st)))) else none := rfl
  rw [if_pos ⟨by simp [List.length_cons]; try omega, hs⟩] at h1
  have h2 := qx_kd_obj (k := 8) (by decide) hk
  exact Rs_call c232_12 h1 (by rw [show qx_args 231 [.ref t, .int z0, .int z1] = decide (qx_sh t = some (.inl 8)) from rfl]; exact decide_eq_true h2)
theorem c232_15 : qx_code 232 15 = some (15, .goto 4, 18, 19, 0, 0) := by decide +kernel
theorem s232_15 {L : Nat} {xs : Nat → Int32} {d x : Nat} {M : qxM} {st : List Value} {ls : qxL} : Rs L xs (d) 232 15 ls st M x = Rs L xs (d) 232 19 ls st M x := Rs_next c232_15 rfl
theorem c232_18 : qx_code 232 18 = some (18, .iconst 0, 19, 0, 0, 0) := by decide +kernel
theorem s232_18 {L : Nat} {xs : Nat → Int32} {d x : Nat} {M : qxM} {st : List Value} {ls : qxL} : Rs L xs (d) 232 18 ls st M x = Rs L xs (d) 232 19 ls (.int (nI 0) :: st) M x := Rs_next c232_18 rfl
theorem c232_19 : qx_code 232 19 = some (19, .ireturn, 20, 0, 0, 0) := by decide +kernel
theorem s232_19 {L : Nat} {xs : Nat → Int32} {d x : Nat} {M : qxM} {ls : qxL} {z : Int32} : Rs L xs (d) 232 19 ls [.int z] M x = some (.inl (some (.int z)), M, x) := Rs_ret c232_19 rfl
theorem c233_0 : qx_code 233 0 = some (0, .aload_n 0, 1, 0, 0, 0) := by decide +kernel
theorem s233_0 {L : Nat} {xs : Nat → Int32} {d x : Nat} {M : qxM} {st : List Value} {a1 a2 : Option Value} {z : Nat} : Rs L xs (d) 233 0 [some (.ref z), a1, a2] st M x = Rs L xs (d) 233 1 [some (.ref z), a1, a2] (.ref z :: st) M x := Rs_next c233_0 rfl
theorem c233_1 : qx_code 233 1 = some (1, .getfield 9, 4, 8, 1, 1546) := by decide +kernel
theorem s233_1 {L : Nat} {xs : Nat → Int32} {d x : Nat} {M : qxM} {st : List Value} {ls : qxL} {t : Nat} (hk : qx_kd t = 18) : Rs L xs (d) 233 1 ls (.ref t :: st) M x = Rs L xs (d) 233 4 ls (.ref (t + 1) :: st) M x := Rs_when (qx_kd_obj (k := 8) (by decide) hk) c233_1 rfl
theorem c233_4 : qx_code 233 4 = some (4, .bipush 55, 6, 0, 0, 0) := by decide +kernel
theorem s233_4 {L : Nat} {xs : Nat → Int32} {d x : Nat} {M : qxM} {st : List Value} {ls : qxL} : Rs L xs (d) 233 4 ls st M x = Rs L xs (d) 233 6 ls (.int (nI 55) :: st) M x := Rs_next c233_4 rfl
theorem c233_6 : qx_code 233 6 = some (6, .iload_n 1, 7, 0, 0, 0) := by decide +kernel
theorem s233_6 {L : Nat} {xs : Nat → Int32} {d x : Nat} {M : qxM} {st : List Value} {a0 a2 : Option Value} {z : Int32} : Rs L xs (d) 233 6 [a0, some (.int z), a2] st M x = Rs L xs (d) 233 7 [a0, some (.int z), a2] (.int z :: st) M x := Rs_next c233_6 rfl
theorem c233_7 : qx_code 233 7 = some (7, .iadd, 8, 0, 0, 0) := by decide +kernel
theorem s233_7 {L : Nat} {xs : Nat → Int32} {d x : Nat} {M : qxM} {st : List Value} {ls : qxL} {z y : Int32} : Rs L xs (d) 233 7 ls (.int y :: .int z :: st) M x = Rs L xs (d) 233 8 ls (.int (z + y) :: st) M x := Rs_next c233_7 rfl
theorem c233_8 : qx_code 233 8 = some (8, .iload_n 2, 9, 0, 0, 0) := by decide +kernel
theorem s233_8 {L : Nat} {xs : Nat → Int32} {d x : Nat} {M : qxM} {st : List Value} {a0 a1 : Option Value} {z : Int32} : Rs L xs (d) 233 8 [a0, a1, some (.int z)] st M x = Rs L xs (d) 233 9 [a0, a1, some (.int z)] (.int z :: st) M x := Rs_next c233_8 rfl
theorem c233_9 : qx_code 233 9 = some (9, .iastore, 10, 0, 0, 0) := by decide +kernel
theorem s233_9 {L : Nat} {xs : Nat → Int32} {d x : Nat} {M : qxM} {st : List Value} {ls : qxL} {t : Nat} {j : Int32} {z : Int32} (hk : qx_kd t = 0) (hj : qx_ib j (qx_ln t) = true) : Rs L xs (d) 233 9 ls (.int z :: .int j :: .ref t :: st) M x = Rs L xs (d) 233 10 ls st (qx_up M t j.toNatClampNeg z) x := by
  have h1 := qx_kd_row (k := 0) (by decide) hk
  exact Rs_unless (qx_ib_not hj) c233_9 (by unfold qx_act; dsimp only; rw [h1]; rfl)
theorem c233_10 : qx_code 233 10 = some (10, .iload_n 2, 11, 0, 0, 0) := by decide +kernel
theorem s233_10 {L : Nat} {xs : Nat → Int32} {d x : Nat} {M : qxM} {st : List Value} {a0 a1 : Option Value} {z : Int32} : Rs L xs (d) 233 10 [a0, a1, some (.int z)] st M x = Rs L xs (d) 233 11 [a0, a1, some (.int z)] (.int z :: st) M x := Rs_next c233_10 rfl
theorem c233_11 : qx_code 233 11 = some (11, .ireturn, 12, 0, 0, 0) := by decide +kernel
theorem s233_11 {L : Nat} {xs : Nat → Int32} {d x : Nat} {M : qxM} {ls : qxL} {z : Int32} : Rs L xs (d) 233 11 ls [.int z] M x = some (.inl (some (.int z)), M, x) := Rs_ret c233_11 rfl
theorem c234_0 : qx_code 234 0 = some (0, .aload_n 0, 1, 0, 0, 0) := by decide +kernel
theorem s234_0 {L : Nat} {xs : Nat → Int32} {d x : Nat} {M : qxM} {st : List Value} {a1 : Option Value} {z : Nat} : Rs L xs (d) 234 0 [some (.ref z), a1] st M x = Rs L xs (d) 234 1 [some (.ref z), a1] (.ref z :: st) M x := Rs_next c234_0 rfl
theorem c234_1 : qx_code 234 1 = some (1, .getfield 9, 4, 8, 1, 1546) := by decide +kernel
theorem s234_1 {L : Nat} {xs : Nat → Int32} {d x : Nat} {M : qxM} {st : List Value} {ls : qxL} {t : Nat} (hk : qx_kd t = 18) : Rs L xs (d) 234 1 ls (.ref t :: st) M x = Rs L xs (d) 234 4 ls (.ref (t + 1) :: st) M x := Rs_when (qx_kd_obj (k := 8) (by decide) hk) c234_1 rfl
theorem c234_4 : qx_code 234 4 = some (4, .bipush 41, 6, 0, 0, 0) := by decide +kernel
theorem s234_4 {L : Nat} {xs : Nat → Int32} {d x : Nat} {M : qxM} {st : List Value} {ls : qxL} : Rs L xs (d) 234 4 ls st M x = Rs L xs (d) 234 6 ls (.int (nI 41) :: st) M x := Rs_next c234_4 rfl
theorem c234_6 : qx_code 234 6 = some (6, .aload_n 0, 7, 0, 0, 0) := by decide +kernel
theorem s234_6 {L : Nat} {xs : Nat → Int32} {d x : Nat} {M : qxM} {st : List Value} {a1 : Option Value} {z : Nat} : Rs L xs (d) 234 6 [some (.ref z), a1] st M x = Rs L xs (d) 234 7 [some (.ref z), a1] (.ref z :: st) M x := Rs_next c234_6 rfl
theorem c234_7 : qx_code 234 7 = some (7, .getfield 9, 10, 8, 1, 1546) := by decide +kernel
theorem s234_7 {L : Nat} {xs : Nat → Int32} {d x : Nat} {M : qxM} {st : List Value} {ls : qxL} {t : Nat} (hk : qx_kd t = 18) : Rs L xs (d) 234 7 ls (.ref t :: st) M x = Rs L xs (d) 234 10 ls (.ref (t + 1) :: st) M x := Rs_when (qx_kd_obj (k := 8) (by decide) hk) c234_7 rfl
theorem c234_10 : qx_code 234 10 = some (10, .bipush 40, 12, 0, 0, 0) := by decide +kernel
theorem s234_10 {L : Nat} {xs : Nat → Int32} {d x : Nat} {M : qxM} {st : List Value} {ls : qxL} : Rs L xs (d) 234 10 ls st M x = Rs L xs (d) 234 12 ls (.int (nI 40) :: st) M x := Rs_next c234_10 rfl
theorem c234_12 : qx_code 234 12 = some (12, .iaload, 13, 0, 0, 0) := by decide +kernel
theorem s234_12 {L : Nat} {xs : Nat → Int32} {d x : Nat} {M : qxM} {st : List Value} {ls : qxL} {t : Nat} {j : Int32} (hk : qx_kd t = 0) (hj : qx_ib j (qx_ln t) = true) : Rs L xs (d) 234 12 ls (.int j :: .ref t :: st) M x = Rs L xs (d) 234 13 ls (.int (M.1 t j.toNatClampNeg) :: st) M x := by
  have h1 := qx_kd_row (k := 0) (by decide) hk
  exact Rs_unless (qx_ib_not hj) c234_12 (by unfold qx_act; dsimp only; rw [h1]; rfl)
theorem c234_13 : qx_code 234 13 = some (13, .iadd, 14, 0, 0, 0) := by decide +kernel
theorem s234_13 {L : Nat} {xs : Nat → Int32} {d x : Nat} {M : qxM} {st : List Value} {ls : qxL} {z y : Int32} : Rs L xs (d) 234 13 ls (.int y :: .int z :: st) M x = Rs L xs (d) 234 14 ls (.int (z + y) :: st) M x := Rs_next c234_13 rfl
theorem c234_14 : qx_code 234 14 = some (14, .iload_n 1, 15, 0, 0, 0) := by decide +kernel
theorem s234_14 {L : Nat} {xs : Nat → Int32} {d x : Nat} {M : qxM} {st : List Value} {a0 : Option Value} {z : Int32} : Rs L xs (d) 234 14 [a0, some (.int z)] st M x = Rs L xs (d) 234 15 [a0, some (.int z)] (.int z :: st) M x := Rs_next c234_14 rfl
theorem c234_15 : qx_code 234 15 = some (15, .iastore, 16, 0, 0, 0) := by decide +kernel
theorem s234_15 {L : Nat} {xs : Nat → Int32} {d x : Nat} {M : qxM} {st : List Value} {ls : qxL} {t : Nat} {j : Int32} {z : Int32} (hk : qx_kd t = 0) (hj : qx_ib j (qx_ln t) = true) : Rs L xs (d) 234 15 ls (.int z :: .int j :: .ref t :: st) M x = Rs L xs (d) 234 16 ls st (qx_up M t j.toNatClampNeg z) x := by
  have h1 := qx_kd_row (k := 0) (by decide) hk
  exact Rs_unless (qx_ib_not hj) c234_15 (by unfold qx_act; dsimp only; rw [h1]; rfl)
theorem c234_16 : qx_code 234 16 = some (16, .aload_n 0, 17, 0, 0, 0) := by decide +kernel
theorem s234_16 {L : Nat} {xs : Nat → Int32} {d x : Nat} {M : qxM} {st : List Value} {a1 : Option Value} {z : Nat} : Rs L xs (d) 234 16 [some (.ref z), a1] st M x = Rs L xs (d) 234 17 [some (.ref z), a1] (.ref z :: st) M x := Rs_next c234_16 rfl
theorem c234_17 : qx_code 234 17 = some (17, .getfield 9, 20, 8, 1, 1546) := by decide +kernel
theorem s234_17 {L : Nat} {xs : Nat → Int32} {d x : Nat} {M : qxM} {st : List Value} {ls : qxL} {t : Nat} (hk : qx_kd t = 18) : Rs L xs (d) 234 17 ls (.ref t :: st) M x = Rs L xs (d) 234 20 ls (.ref (t + 1) :: st) M x := Rs_when (qx_kd_obj (k := 8) (by decide) hk) c234_17 rfl
theorem c234_20 : qx_code 234 20 = some (20, .bipush 40, 22, 0, 0, 0) := by decide +kernel
theorem s234_20 {L : Nat} {xs : Nat → Int32} {d x : Nat} {M : qxM} {st : List Value} {ls : qxL} : Rs L xs (d) 234 20 ls st M x = Rs L xs (d) 234 22 ls (.int (nI 40) :: st) M x := Rs_next c234_20 rfl
theorem c234_22 : qx_code 234 22 = some (22, .dup2, 23, 0, 0, 0) := by decide +kernel
theorem s234_22 {L : Nat} {xs : Nat → Int32} {d x : Nat} {M : qxM} {st : List Value} {ls : qxL} {z : Nat} {y : Int32} : Rs L xs (d) 234 22 ls (.int y :: .ref z :: st) M x = Rs L xs (d) 234 23 ls (.int y :: .ref z :: .int y :: .ref z :: st) M x := Rs_next c234_22 rfl
theorem c234_23 : qx_code 234 23 = some (23, .iaload, 24, 0, 0, 0) := by decide +kernel
theorem s234_23 {L : Nat} {xs : Nat → Int32} {d x : Nat} {M : qxM} {st : List Value} {ls : qxL} {t : Nat} {j : Int32} (hk : qx_kd t = 0) (hj : qx_ib j (qx_ln t) = true) : Rs L xs (d) 234 23 ls (.int j :: .ref t :: st) M x = Rs L xs (d) 234 24 ls (.int (M.1 t j.toNatClampNeg) :: st) M x := by
  have h1 := qx_kd_row (k := 0) (by decide) hk
  exact Rs_unless (qx_ib_not hj) c234_23 (by unfold qx_act; dsimp only; rw [h1]; rfl)
theorem c234_24 : qx_code 234 24 = some (24, .iconst 1, 25, 0, 0, 0) := by decide +kernel
theorem s234_24 {L : Nat} {xs : Nat → Int32} {d x : Nat} {M : qxM} {st : List Value} {ls : qxL} : Rs L xs (d) 234 24 ls st M x = Rs L xs (d) 234 25 ls (.int (nI 1) :: st) M x := Rs_next c234_24 rfl
theorem c234_25 : qx_code 234 25 = some (25, .iadd, 26, 0, 0, 0) := by decide +kernel
theorem s234_25 {L : Nat} {xs : Nat → Int32} {d x : Nat} {M : qxM} {st : List Value} {ls : qxL} {z y : Int32} : Rs L xs (d) 234 25 ls (.int y :: .int z :: st) M x = Rs L xs (d) 234 26 ls (.int (z + y) :: st) M x := Rs_next c234_25 rfl
theorem c234_26 : qx_code 234 26 = some (26, .iastore, 27, 0, 0, 0) := by decide +kernel
theorem s234_26 {L : Nat} {xs : Nat → Int32} {d x : Nat} {M : qxM} {st : List Value} {ls : qxL} {t : Nat} {j : Int32} {z : Int32} (hk : qx_kd t = 0) (hj : qx_ib j (qx_ln t) = true) : Rs L xs (d) 234 26 ls (.int z :: .int j :: .ref t :: st) M x = Rs L xs (d) 234 27 ls st (qx_up M t j.toNatClampNeg z) x := by
  have h1 := qx_kd_row (k := 0) (by decide) hk
  exact Rs_unless (qx_ib_not hj) c234_26 (by unfold qx_act; dsimp only; rw [h1]; rfl)
theorem c234_27 : qx_code 234 27 = some (27, .return_, 28, 0, 0, 0) := by decide +kernel
theorem s234_27 {L : Nat} {xs : Nat → Int32} {d x : Nat} {M : qxM} {ls : qxL} : Rs L xs (d) 234 27 ls [] M x = some (.inl none, M, x) := Rs_ret c234_27 rfl
theorem c235_0 : qx_code 235 0 = some (0, .aload_n 0, 1, 0, 0, 0) := by decide +kernel
theorem s235_0 {L : Nat} {xs : Nat → Int32} {d x : Nat} {M : qxM} {st : List Value} {a1 a2 : Option Value} {z : Nat} : Rs L xs (d) 235 0 [some (.ref z), a1, a2] st M x = Rs L xs (d) 235 1 [some (.ref z), a1, a2] (.ref z :: st) M x := Rs_next c235_0 rfl
theorem c235_1 : qx_code 235 1 = some (1, .getfield 9, 4, 8, 1, 1546) := by decide +kernel
theorem s235_1 {L : Nat} {xs : Nat → Int32} {d x : Nat} {M : qxM} {st : List Value} {ls : qxL} {t : Nat} (hk : qx_kd t = 18) : Rs L xs (d) 235 1 ls (.ref t :: st) M x = Rs L xs (d) 235 4 ls (.ref (t + 1) :: st) M x := Rs_when (qx_kd_obj (k := 8) (by decide) hk) c235_1 rfl
theorem c235_4 : qx_code 235 4 = some (4, .sipush 139, 7, 0, 0, 0) := by decide +kernel
theorem s235_4 {L : Nat} {xs : Nat → Int32} {d x : Nat} {M : qxM} {st : List Value} {ls : qxL} : Rs L xs (d) 235 4 ls st M x = Rs L xs (d) 235 7 ls (.int (nI 139) :: st) M x := Rs_next c235_4 rfl
theorem c235_7 : qx_code 235 7 = some (7, .bipush 14, 9, 0, 0, 0) := by decide +kernel
theorem s235_7 {L : Nat} {xs : Nat → Int32} {d x : Nat} {M : qxM} {st : List Value} {ls : qxL} : Rs L xs (d) 235 7 ls st M x = Rs L xs (d) 235 9 ls (.int (nI 14) :: st) M x := Rs_next c235_7 rfl
theorem c235_9 : qx_code 235 9 = some (9, .iload_n 1, 10, 0, 0, 0) := by decide +kernel
theorem s235_9 {L : Nat} {xs : Nat → Int32} {d x : Nat} {M : qxM} {st : List Value} {a0 a2 : Option Value} {z : Int32} : Rs L xs (d) 235 9 [a0, some (.int z), a2] st M x = Rs L xs (d) 235 10 [a0, some (.int z), a2] (.int z :: st) M x := Rs_next c235_9 rfl
theorem c235_10 : qx_code 235 10 = some (10, .imul, 11, 0, 0, 0) := by decide +kernel
theorem s235_10 {L : Nat} {xs : Nat → Int32} {d x : Nat} {M : qxM} {st : List Value} {ls : qxL} {z y : Int32} : Rs L xs (d) 235 10 ls (.int y :: .int z :: st) M x = Rs L xs (d) 235 11 ls (.int (z * y) :: st) M x := Rs_next c235_10 rfl
theorem c235_11 : qx_code 235 11 = some (11, .iadd, 12, 0, 0, 0) := by decide +kernel
theorem s235_11 {L : Nat} {xs : Nat → Int32} {d x : Nat} {M : qxM} {st : List Value} {ls : qxL} {z y : Int32} : Rs L xs (d) 235 11 ls (.int y :: .int z :: st) M x = Rs L xs (d) 235 12 ls (.int (z + y) :: st) M x := Rs_next c235_11 rfl
theorem c235_12 : qx_code 235 12 = some (12, .iload_n 2, 13, 0, 0, 0) := by decide +kernel
theorem s235_12 {L : Nat} {xs : Nat → Int32} {d x : Nat} {M : qxM} {st : List Value} {a0 a1 : Option Value} {z : Int32} : Rs L xs (d) 235 12 [a0, a1, some (.int z)] st M x = Rs L xs (d) 235 13 [a0, a1, some (.int z)] (.int z :: st) M x := Rs_next c235_12 rfl
theorem c235_13 : qx_code 235 13 = some (13, .iadd, 14, 0, 0, 0) := by decide +kernel
theorem s235_13 {L : Nat} {xs : Nat → Int32} {d x : Nat} {M : qxM} {st : List Value} {ls : qxL} {z y : Int32} : Rs L xs (d) 235 13 ls (.int y :: .int z :: st) M x = Rs L xs (d) 235 14 ls (.int (z + y) :: st) M x := Rs_next c235_13 rfl
theorem c235_14 : qx_code 235 14 = some (14, .iaload, 15, 0, 0, 0) := by decide +kernel
theorem s235_14 {L : Nat} {xs : Nat → Int32} {d x : Nat} {M : qxM} {st : List Value} {ls : qxL} {t : Nat} {j : Int32} (hk : qx_kd t = 0) (hj : qx_ib j (qx_ln t) = true) : Rs L xs (d) 235 14 ls (.int j :: .ref t :: st) M x = Rs L xs (d) 235 15 ls (.int (M.1 t j.toNatClampNeg) :: st) M x := by
  have h1 := qx_kd_row (k := 0) (by decide) hk
  exact Rs_unless (qx_ib_not hj) c235_14 (by unfold qx_act; dsimp only; rw [h1]; rfl)
theorem c235_15 : qx_code 235 15 = some (15, .ireturn, 16, 0, 0, 0) := by decide +kernel
theorem s235_15 {L : Nat} {xs : Nat → Int32} {d x : Nat} {M : qxM} {ls : qxL} {z : Int32} : Rs L xs (d) 235 15 ls [.int z] M x = some (.inl (some (.int z)), M, x) := Rs_ret c235_15 rfl
theorem c236_0 : qx_code 236 0 = some (0, .aload_n 0, 1, 0, 0, 0) := by decide +kernel
theorem s236_0 {L : Nat} {xs : Nat → Int32} {d x : Nat} {M : qxM} {st : List Value} {a1 a2 : Option Value} {z : Nat} : Rs L xs (d) 236 0 [some (.ref z), a1, a2] st M x = Rs L xs (d) 236 1 [some (.ref z), a1, a2] (.ref z :: st) M x := Rs_next c236_0 rfl
theorem c236_1 : qx_code 236 1 = some (1, .getfield 9, 4, 8, 1, 1546) := by decide +kernel
theorem s236_1 {L : Nat} {xs : Nat → Int32} {d x : Nat} {M : qxM} {st : List Value} {ls : qxL} {t : Nat} (hk : qx_kd t = 18) : Rs L xs (d) 236 1 ls (.ref t :: st) M x = Rs L xs (d) 236 4 ls (.ref (t + 1) :: st) M x := Rs_when (qx_kd_obj (k := 8) (by decide) hk) c236_1 rfl
theorem c236_4 : qx_code 236 4 = some (4, .sipush 139, 7, 0, 0, 0) := by decide +kernel
theorem s236_4 {L : Nat} {xs : Nat → Int32} {d x : Nat} {M : qxM} {st : List Value} {ls : qxL} : Rs L xs (d) 236 4 ls st M x = Rs L xs (d) 236 7 ls (.int (nI 139) :: st) M x := Rs_next c236_4 rfl
theorem c236_7 : qx_code 236 7 = some (7, .bipush 14, 9, 0, 0, 0) := by decide +kernel
theorem s236_7 {L : Nat} {xs : Nat → Int32} {d x : Nat} {M : qxM} {st : List Value} {ls : qxL} : Rs L xs (d) 236 7 ls st M x = Rs L xs (d) 236 9 ls (.int (nI 14) :: st) M x := Rs_next c236_7 rfl
theorem c236_9 : qx_code 236 9 = some (9, .iload_n 1, 10, 0, 0, 0) := by decide +kernel
theorem s236_9 {L : Nat} {xs : Nat → Int32} {d x : Nat} {M : qxM} {st : List Value} {a0 a2 : Option Value} {z : Int32} : Rs L xs (d) 236 9 [a0, some (.int z), a2] st M x = Rs L xs (d) 236 10 [a0, some (.int z), a2] (.int z :: st) M x := Rs_next c236_9 rfl
theorem c236_10 : qx_code 236 10 = some (10, .imul, 11, 0, 0, 0) := by decide +kernel
theorem s236_10 {L : Nat} {xs : Nat → Int32} {d x : Nat} {M : qxM} {st : List Value} {ls : qxL} {z y : Int32} : Rs L xs (d) 236 10 ls (.int y :: .int z :: st) M x = Rs L xs (d) 236 11 ls (.int (z * y) :: st) M x := Rs_next c236_10 rfl
theorem c236_11 : qx_code 236 11 = some (11, .iadd, 12, 0, 0, 0) := by decide +kernel
theorem s236_11 {L : Nat} {xs : Nat → Int32} {d x : Nat} {M : qxM} {st : List Value} {ls : qxL} {z y : Int32} : Rs L xs (d) 236 11 ls (.int y :: .int z :: st) M x = Rs L xs (d) 236 12 ls (.int (z + y) :: st) M x := Rs_next c236_11 rfl
theorem c236_12 : qx_code 236 12 = some (12, .aload_n 0, 13, 0, 0, 0) := by decide +kernel
theorem s236_12 {L : Nat} {xs : Nat → Int32} {d x : Nat} {M : qxM} {st : List Value} {a1 a2 : Option Value} {z : Nat} : Rs L xs (d) 236 12 [some (.ref z), a1, a2] st M x = Rs L xs (d) 236 13 [some (.ref z), a1, a2] (.ref z :: st) M x := Rs_next c236_12 rfl
theorem c236_13 : qx_code 236 13 = some (13, .getfield 9, 16, 8, 1, 1546) := by decide +kernel
theorem s236_13 {L : Nat} {xs : Nat → Int32} {d x : Nat} {M : qxM} {st : List Value} {ls : qxL} {t : Nat} (hk : qx_kd t = 18) : Rs L xs (d) 236 13 ls (.ref t :: st) M x = Rs L xs (d) 236 16 ls (.ref (t + 1) :: st) M x := Rs_when (qx_kd_obj (k := 8) (by decide) hk) c236_13 rfl
theorem c236_16 : qx_code 236 16 = some (16, .bipush 125, 18, 0, 0, 0) := by decide +kernel
theorem s236_16 {L : Nat} {xs : Nat → Int32} {d x : Nat} {M : qxM} {st : List Value} {ls : qxL} : Rs L xs (d) 236 16 ls st M x = Rs L xs (d) 236 18 ls (.int (nI 125) :: st) M x := Rs_next c236_16 rfl
theorem c236_18 : qx_code 236 18 = some (18, .iload_n 1, 19, 0, 0, 0) := by decide +kernel
theorem s236_18 {L : Nat} {xs : Nat → Int32} {d x : Nat} {M : qxM} {st : List Value} {a0 a2 : Option Value} {z : Int32} : Rs L xs (d) 236 18 [a0, some (.int z), a2] st M x = Rs L xs (d) 236 19 [a0, some (.int z), a2] (.int z :: st) M x := Rs_next c236_18 rfl
theorem c236_19 : qx_code 236 19 = some (19, .iadd, 20, 0, 0, 0) := by decide +kernel
theorem s236_19 {L : Nat} {xs : Nat → Int32} {d x : Nat} {M : qxM} {st : List Value} {ls : qxL} {z y : Int32} : Rs L xs (d) 236 19 ls (.int y :: .int z :: st) M x = Rs L xs (d) 236 20 ls (.int (z + y) :: st) M x := Rs_next c236_19 rfl
theorem c236_20 : qx_code 236 20 = some (20, .iaload, 21, 0, 0, 0) := by decide +kernel
theorem s236_20 {L : Nat} {xs : Nat → Int32} {d x : Nat} {M : qxM} {st : List Value} {ls : qxL} {t : Nat} {j : Int32} (hk : qx_kd t = 0) (hj : qx_ib j (qx_ln t) = true) : Rs L xs (d) 236 20 ls (.int j :: .ref t :: st) M x = Rs L xs (d) 236 21 ls (.int (M.1 t j.toNatClampNeg) :: st) M x := by
  have h1 := qx_kd_row (k := 0) (by decide) hk
  exact Rs_unless (qx_ib_not hj) c236_20 (by unfold qx_act; dsimp only; rw [h1]; rfl)
theorem c236_21 : qx_code 236 21 = some (21, .iadd, 22, 0, 0, 0) := by decide +kernel
theorem s236_21 {L : Nat} {xs : Nat → Int32} {d x : Nat} {M : qxM} {st : List Value} {ls : qxL} {z y : Int32} : Rs L xs (d) 236 21 ls (.int y :: .int z :: st) M x = Rs L xs (d) 236 22 ls (.int (z + y) :: st) M x := Rs_next c236_21 rfl
theorem c236_22 : qx_code 236 22 = some (22, .iload_n 2, 23, 0, 0, 0) := by decide +kernel
theorem s236_22 {L : Nat} {xs : Nat → Int32} {d x : Nat} {M : qxM} {st : List Value} {a0 a1 : Option Value} {z : Int32} : Rs L xs (d) 236 22 [a0, a1, some (.int z)] st M x = Rs L xs (d) 236 23 [a0, a1, some (.int z)] (.int z :: st) M x := Rs_next c236_22 rfl
theorem c236_23 : qx_code 236 23 = some (23, .iastore, 24, 0, 0, 0) := by decide +kernel
theorem s236_23 {L : Nat} {xs : Nat → Int32} {d x : Nat} {M : qxM} {st : List Value} {ls : qxL} {t : Nat} {j : Int32} {z : Int32} (hk : qx_kd t = 0) (hj : qx_ib j (qx_ln t) = true) : Rs L xs (d) 236 23 ls (.int z :: .int j :: .ref t :: st) M x = Rs L xs (d) 236 24 ls st (qx_up M t j.toNatClampNeg z) x := by
  have h1 := qx_kd_row (k := 0) (by decide) hk
  exact Rs_unless (qx_ib_not hj) c236_23 (by unfold qx_act; dsimp only; rw [h1]; rfl)
theorem c236_24 : qx_code 236 24 = some (24, .aload_n 0, 25, 0, 0, 0) := by decide +kernel
theorem s236_24 {L : Nat} {xs : Nat → Int32} {d x : Nat} {M : qxM} {st : List Value} {a1 a2 : Option Value} {z : Nat} : Rs L xs (d) 236 24 [some (.ref z), a1, a2] st M x = Rs L xs (d) 236 25 [some (.ref z), a1, a2] (.ref z :: st) M x := Rs_next c236_24 rfl
theorem c236_25 : qx_code 236 25 = some (25, .getfield 9, 28, 8, 1, 1546) := by decide +kernel
theorem s236_25 {L : Nat} {xs : Nat → Int32} {d x : Nat} {M : qxM} {st : List Value} {ls : qxL} {t : Nat} (hk : qx_kd t = 18) : Rs L xs (d) 236 25 ls (.ref t :: st) M x = Rs L xs (d) 236 28 ls (.ref (t + 1) :: st) M x := Rs_when (qx_kd_obj (k := 8) (by decide) hk) c236_25 rfl
theorem c236_28 : qx_code 236 28 = some (28, .bipush 125, 30, 0, 0, 0) := by decide +kernel
theorem s236_28 {L : Nat} {xs : Nat → Int32} {d x : Nat} {M : qxM} {st : List Value} {ls : qxL} : Rs L xs (d) 236 28 ls st M x = Rs L xs (d) 236 30 ls (.int (nI 125) :: st) M x := Rs_next c236_28 rfl
theorem c236_30 : qx_code 236 30 = some (30, .iload_n 1, 31, 0, 0, 0) := by decide +kernel
theorem s236_30 {L : Nat} {xs : Nat → Int32} {d x : Nat} {M : qxM} {st : List Value} {a0 a2 : Option Value} {z : Int32} : Rs L xs (d) 236 30 [a0, some (.int z), a2] st M x = Rs L xs (d) 236 31 [a0, some (.int z), a2] (.int z :: st) M x := Rs_next c236_30 rfl
theorem c236_31 : qx_code 236 31 = some (31, .iadd, 32, 0, 0, 0) := by decide +kernel
theorem s236_31 {L : Nat} {xs : Nat → Int32} {d x : Nat} {M : qxM} {st : List Value} {ls : qxL} {z y : Int32} : Rs L xs (d) 236 31 ls (.int y :: .int z :: st) M x = Rs L xs (d) 236 32 ls (.int (z + y) :: st) M x := Rs_next c236_31 rfl
theorem c236_32 : qx_code 236 32 = some (32, .dup2, 33, 0, 0, 0) := by decide +kernel
theorem s236_32 {L : Nat} {xs : Nat → Int32} {d x : Nat} {M : qxM} {st : List Value} {ls : qxL} {z : Nat} {y : Int32} : Rs L xs (d) 236 32 ls (.int y :: .ref z :: st) M x = Rs L xs (d) 236 33 ls (.int y :: .ref z :: .int y :: .ref z :: st) M x := Rs_next c236_32 rfl
theorem c236_33 : qx_code 236 33 = some (33, .iaload, 34, 0, 0, 0) := by decide +kernel
theorem s236_33 {L : Nat} {xs : Nat → Int32} {d x : Nat} {M : qxM} {st : List Value} {ls : qxL} {t : Nat} {j : Int32} (hk : qx_kd t = 0) (hj : qx_ib j (qx_ln t) = true) : Rs L xs (d) 236 33 ls (.int j :: .ref t :: st) M x = Rs L xs (d) 236 34 ls (.int (M.1 t j.toNatClampNeg) :: st) M x := by
  have h1 := qx_kd_row (k := 0) (by decide) hk
  exact Rs_unless (qx_ib_not hj) c236_33 (by unfold qx_act; dsimp only; rw [h1]; rfl)
theorem c236_34 : qx_code 236 34 = some (34, .iconst 1, 35, 0, 0, 0) := by decide +kernel
theorem s236_34 {L : Nat} {xs : Nat → Int32} {d x : Nat} {M : qxM} {st : List Value} {ls : qxL} : Rs L xs (d) 236 34 ls st M x = Rs L xs (d) 236 35 ls (.int (nI 1) :: st) M x := Rs_next c236_34 rfl
theorem c236_35 : qx_code 236 35 = some (35, .iadd, 36, 0, 0, 0) := by decide +kernel
theorem s236_35 {L : Nat} {xs : Nat → Int32} {d x : Nat} {M : qxM} {st : List Value} {ls : qxL} {z y : Int32} : Rs L xs (d) 236 35 ls (.int y :: .int z :: st) M x = Rs L xs (d) 236 36 ls (.int (z + y) :: st) M x := Rs_next c236_35 rfl
theorem c236_36 : qx_code 236 36 = some (36, .iastore, 37, 0, 0, 0) := by decide +kernel
theorem s236_36 {L : Nat} {xs : Nat → Int32} {d x : Nat} {M : qxM} {st : List Value} {ls : qxL} {t : Nat} {j : Int32} {z : Int32} (hk : qx_kd t = 0) (hj : qx_ib j (qx_ln t) = true) : Rs L xs (d) 236 36 ls (.int z :: .int j :: .ref t :: st) M x = Rs L xs (d) 236 37 ls st (qx_up M t j.toNatClampNeg z) x := by
  have h1 := qx_kd_row (k := 0) (by decide) hk
  exact Rs_unless (qx_ib_not hj) c236_36 (by unfold qx_act; dsimp only; rw [h1]; rfl)
theorem c236_37 : qx_code 236 37 = some (37, .return_, 38, 0, 0, 0) := by decide +kernel
theorem s236_37 {L : Nat} {xs : Nat → Int32} {d x : Nat} {M : qxM} {ls : qxL} : Rs L xs (d) 236 37 ls [] M x = some (.inl none, M, x) := Rs_ret c236_37 rfl
theorem c237_0 : qx_code 237 0 = some (0, .iconst 0, 1, 0, 0, 0) := by decide +kernel
theorem s237_0 {L : Nat} {xs : Nat → Int32} {d x : Nat} {M : qxM} {st : List Value} {ls : qxL} : Rs L xs (d) 237 0 ls st M x = Rs L xs (d) 237 1 ls (.int (nI 0) :: st) M x := Rs_next c237_0 rfl
theorem c237_1 : qx_code 237 1 = some (1, .istore_n 3, 2, 0, 0, 0) := by decide +kernel
theorem s237_1i {L : Nat} {xs : Nat → Int32} {d x : Nat} {M : qxM} {st : List Value} {a0 a1 a3 : Option Value} {z : Int32} {y : Int32} : Rs L xs (d) 237 1 [a0, a1, some (.int y), a3] (.int z :: st) M x = Rs L xs (d) 237 2 [a0, a1, some (.int y), some (.int z)] st M x := Rs_next c237_1 rfl
theorem s237_1r {L : Nat} {xs : Nat → Int32} {d x : Nat} {M : qxM} {st : List Value} {a0 a1 a3 : Option Value} {z : Int32} {y : Nat} : Rs L xs (d) 237 1 [a0, a1, some (.ref y), a3] (.int z :: st) M x = Rs L xs (d) 237 2 [a0, a1, some (.ref y), some (.int z)] st M x := Rs_next c237_1 rfl
theorem s237_1n {L : Nat} {xs : Nat → Int32} {d x : Nat} {M : qxM} {st : List Value} {a0 a1 a3 : Option Value} {z : Int32} : Rs L xs (d) 237 1 [a0, a1, none, a3] (.int z :: st) M x = Rs L xs (d) 237 2 [a0, a1, none, some (.int z)] st M x := Rs_next c237_1 rfl
theorem c237_2 : qx_code 237 2 = some (2, .iload_n 3, 3, 0, 0, 0) := by decide +kernel
theorem s237_2 {L : Nat} {xs : Nat → Int32} {d x : Nat} {M : qxM} {st : List Value} {a0 a1 a2 : Option Value} {z : Int32} : Rs L xs (d) 237 2 [a0, a1, a2, some (.int z)] st M x = Rs L xs (d) 237 3 [a0, a1, a2, some (.int z)] (.int z :: st) M x := Rs_next c237_2 rfl
theorem c237_3 : qx_code 237 3 = some (3, .aload_n 0, 4, 0, 0, 0) := by decide +kernel
theorem s237_3 {L : Nat} {xs : Nat → Int32} {d x : Nat} {M : qxM} {st : List Value} {a1 a2 a3 : Option Value} {z : Nat} : Rs L xs (d) 237 3 [some (.ref z), a1, a2, a3] st M x = Rs L xs (d) 237 4 [some (.ref z), a1, a2, a3] (.ref z :: st) M x := Rs_next c237_3 rfl
theorem c237_4 : qx_code 237 4 = some (4, .getfield 9, 7, 8, 1, 1546) := by decide +kernel
theorem s237_4 {L : Nat} {xs : Nat → Int32} {d x : Nat} {M : qxM} {st : List Value} {ls : qxL} {t : Nat} (hk : qx_kd t = 18) : Rs L xs (d) 237 4 ls (.ref t :: st) M x = Rs L xs (d) 237 7 ls (.ref (t + 1) :: st) M x := Rs_when (qx_kd_obj (k := 8) (by decide) hk) c237_4 rfl
theorem c237_7 : qx_code 237 7 = some (7, .bipush 125, 9, 0, 0, 0) := by decide +kernel
theorem s237_7 {L : Nat} {xs : Nat → Int32} {d x : Nat} {M : qxM} {st : List Value} {ls : qxL} : Rs L xs (d) 237 7 ls st M x = Rs L xs (d) 237 9 ls (.int (nI 125) :: st) M x := Rs_next c237_7 rfl
theorem c237_9 : qx_code 237 9 = some (9, .iload_n 2, 10, 0, 0, 0) := by decide +kernel
theorem s237_9 {L : Nat} {xs : Nat → Int32} {d x : Nat} {M : qxM} {st : List Value} {a0 a1 a3 : Option Value} {z : Int32} : Rs L xs (d) 237 9 [a0, a1, some (.int z), a3] st M x = Rs L xs (d) 237 10 [a0, a1, some (.int z), a3] (.int z :: st) M x := Rs_next c237_9 rfl
theorem c237_10 : qx_code 237 10 = some (10, .iadd, 11, 0, 0, 0) := by decide +kernel
theorem s237_10 {L : Nat} {xs : Nat → Int32} {d x : Nat} {M : qxM} {st : List Value} {ls : qxL} {z y : Int32} : Rs L xs (d) 237 10 ls (.int y :: .int z :: st) M x = Rs L xs (d) 237 11 ls (.int (z + y) :: st) M x := Rs_next c237_10 rfl
theorem c237_11 : qx_code 237 11 = some (11, .iaload, 12, 0, 0, 0) := by decide +kernel
theorem s237_11 {L : Nat} {xs : Nat → Int32} {d x : Nat} {M : qxM} {st : List Value} {ls : qxL} {t : Nat} {j : Int32} (hk : qx_kd t = 0) (hj : qx_ib j (qx_ln t) = true) : Rs L xs (d) 237 11 ls (.int j :: .ref t :: st) M x = Rs L xs (d) 237 12 ls (.int (M.1 t j.toNatClampNeg) :: st) M x := by
  have h1 := qx_kd_row (k := 0) (by decide) hk
  exact Rs_unless (qx_ib_not hj) c237_11 (by unfold qx_act; dsimp only; rw [h1]; rfl)
theorem c237_12 : qx_code 237 12 = some (12, .if_icmp .ge 20, 15, 32, 0, 0) := by decide +kernel
theorem s237_12 {L : Nat} {xs : Nat → Int32} {d x : Nat} {M : qxM} {st : List Value} {ls : qxL} {z y : Int32} : Rs L xs (d) 237 12 ls (.int y :: .int z :: st) M x = if y ≤ z then Rs L xs (d) 237 32 ls st M x else Rs L xs (d) 237 15 ls st M x := Rs_ite c237_12 rfl
theorem c237_15 : qx_code 237 15 = some (15, .aload_n 0, 16, 0, 0, 0) := by decide +kernel
theorem s237_15 {L : Nat} {xs : Nat → Int32} {d x : Nat} {M : qxM} {st : List Value} {a1 a2 a3 : Option Value} {z : Nat} : Rs L xs (d) 237 15 [some (.ref z), a1, a2, a3] st M x = Rs L xs (d) 237 16 [some (.ref z), a1, a2, a3] (.ref z :: st) M x := Rs_next c237_15 rfl
theorem c237_16 : qx_code 237 16 = some (16, .iload_n 1, 17, 0, 0, 0) := by decide +kernel
theorem s237_16 {L : Nat} {xs : Nat → Int32} {d x : Nat} {M : qxM} {st : List Value} {a0 a2 a3 : Option Value} {z : Int32} : Rs L xs (d) 237 16 [a0, some (.int z), a2, a3] st M x = Rs L xs (d) 237 17 [a0, some (.int z), a2, a3] (.int z :: st) M x := Rs_next c237_16 rfl
theorem c237_17 : qx_code 237 17 = some (17, .aload_n 0, 18, 0, 0, 0) := by decide +kernel
theorem s237_17 {L : Nat} {xs : Nat → Int32} {d x : Nat} {M : qxM} {st : List Value} {a1 a2 a3 : Option Value} {z : Nat} : Rs L xs (d) 237 17 [some (.ref z), a1, a2, a3] st M x = Rs L xs (d) 237 18 [some (.ref z), a1, a2, a3] (.ref z :: st) M x := Rs_next c237_17 rfl
theorem c237_18 : qx_code 237 18 = some (18, .iload_n 2, 19, 0, 0, 0) := by decide +kernel
theorem s237_18 {L : Nat} {xs : Nat → Int32} {d x : Nat} {M : qxM} {st : List Value} {a0 a1 a3 : Option Value} {z : Int32} : Rs L xs (d) 237 18 [a0, a1, some (.int z), a3] st M x = Rs L xs (d) 237 19 [a0, a1, some (.int z), a3] (.int z :: st) M x := Rs_next c237_18 rfl
theorem c237_19 : qx_code 237 19 = some (19, .iload_n 3, 20, 0, 0, 0) := by decide +kernel
theorem s237_19 {L : Nat} {xs : Nat → Int32} {d x : Nat} {M : qxM} {st : List Value} {a0 a1 a2 : Option Value} {z : Int32} : Rs L xs (d) 237 19 [a0, a1, a2, some (.int z)] st M x = Rs L xs (d) 237 20 [a0, a1, a2, some (.int z)] (.int z :: st) M x := Rs_next c237_19 rfl
theorem c237_20 : qx_code 237 20 = some (20, .invokevirtual 241, 23, 235, 3, 1910) := by decide +kernel
theorem s237_20 {L : Nat} {xs : Nat → Int32} {d x : Nat} {M : qxM} {st : List Value} {ls : qxL} {t : Nat} {z0 : Int32} {z1 : Int32} (hk : qx_kd t = 18) (hs : st.length ≤ 4) : Rs L xs (d + 1) 237 20 ls (.int z1 :: .int z0 :: .ref t :: st) M x = (Rs L xs d 235 0 [some (.ref t), some (.int z0), some (.int z1)] [] M 0).bind (qx_kn L xs (d + 1) 237 20 23 235 ls st x) := by
  have h1 : qx_act L xs (qx_rt 237) (20, .invokevirtual 241, 23, 235, 3, 1910) ls (.int z1 :: .int z0 :: .ref t :: st) M = if 3 ≤ (.int z1 :: .int z0 :: .ref t :: st).length ∧ st.length ≤ 4 then some (.inr (.inr (.inr (235, [.ref t, .int z0, .int z1], st)))) else none := rfl
  rw [if_pos ⟨by simp [List.length_cons]; try omega, hs⟩] at h1
  have h2 := qx_kd_obj (k := 8) (by decide) hk
  exact Rs_call c237_20 h1 (by rw [show qx_args 235 [.ref t, .int z0, .int z1] = decide (qx_sh t = some (.inl 8)) from rfl]; exact decide_eq_true h2)
theorem c237_23 : qx_code 237 23 = some (23, .invokevirtual 244, 26, 236, 3, 2081) := by decide +kernel
theorem s237_23 {L : Nat} {xs : Nat → Int32} {d x : Nat} {M : qxM} {st : List Value} {ls : qxL} {t : Nat} {z0 : Int32} {z1 : Int32} (hk : qx_kd t = 18) (hs : st.length ≤ 4) : Rs L xs (d + 1) 237 23 ls (.int z1 :: .int z0 :: .ref t :: st) M x = (Rs L xs d 236 0 [some (.ref t), some (.int z0), some (.int z1)] [] M 0).bind (qx_kn L xs (d + 1) 237 23 26 236 ls st x) := by
  have h1 : qx_act L xs (qx_rt 237) (23, .invokevirtual 244, 26, 236, 3, 2081) ls (.int z1 :: .int z0 :: .ref t :: st) M = if 3 ≤ (.int z1 :: .int z0 :: .ref t :: st).length ∧ st.length ≤ 4 then some (.inr (.inr (.inr (236, [.ref t, .int z0, .int z1], st)))) else none := rfl
  rw [if_pos ⟨by simp [List.length_cons]; try omega, hs⟩] at h1
  have h2 := qx_kd_obj (k := 8) (by decide) hk
  exact Rs_call c237_23 h1 (by rw [show qx_args 236 [.ref t, .int z0, .int z1] = decide (qx_sh t = some (.inl 8)) from rfl]; exact decide_eq_true h2)
theorem c237_26 : qx_code 237 26 = some (26, .iinc 3 1, 29, 0, 0, 0) := by decide +kernel
theorem s237_26i {L : Nat} {xs : Nat → Int32} {d x : Nat} {M : qxM} {st : List Value} {a0 a1 : Option Value} {z : Int32} {y : Int32} : Rs L xs (d) 237 26 [a0, a1, some (.int y), some (.int z)] st M x = Rs L xs (d) 237 29 [a0, a1, some (.int y), some (.int (z + (nI 1)))] st M x := Rs_next c237_26 rfl
theorem s237_26r {L : Nat} {xs : Nat → Int32} {d x : Nat} {M : qxM} {st : List Value} {a0 a1 : Option Value} {z : Int32} {y : Nat} : Rs L xs (d) 237 26 [a0, a1, some (.ref y), some (.int z)] st M x = Rs L xs (d) 237 29 [a0, a1, some (.ref y), some (.int (z + (nI 1)))] st M x := Rs_next c237_26 rfl
theorem s237_26n {L : Nat} {xs : Nat → Int32} {d x : Nat} {M : qxM} {st : List Value} {a0 a1 : Option Value} {z : Int32} : Rs L xs (d) 237 26 [a0, a1, none, some (.int z)] st M x = Rs L xs (d) 237 29 [a0, a1, none, some (.int (z + (nI 1)))] st M x := Rs_next c237_26 rfl
theorem c237_29 : qx_code 237 29 = some (29, .goto (-27), 32, 2, 0, 0) := by decide +kernel
theorem s237_29 {L : Nat} {xs : Nat → Int32} {d x : Nat} {M : qxM} {st : List Value} {ls : qxL} : Rs L xs (d) 237 29 ls st M x = Rs L xs (d) 237 2 ls st M x := Rs_next c237_29 rfl
theorem c237_32 : qx_code 237 32 = some (32, .return_, 33, 0, 0, 0) := by decide +kernel
theorem s237_32 {L : Nat} {xs : Nat → Int32} {d x : Nat} {M : qxM} {ls : qxL} : Rs L xs (d) 237 32 ls [] M x = some (.inl none, M, x) := Rs_ret c237_32 rfl
theorem c238_0 : qx_code 238 0 = some (0, .bipush 35, 2, 0, 0, 0) := by decide +kernel
theorem s238_0 {L : Nat} {xs : Nat → Int32} {d x : Nat} {M : qxM} {st : List Value} {ls : qxL} : Rs L xs (d) 238 0 ls st M x = Rs L xs (d) 238 2 ls (.int (nI 35) :: st) M x := Rs_next c238_0 rfl
theorem c238_2 : qx_code 238 2 = some (2, .istore_n 2, 3, 0, 0, 0) := by decide +kernel
theorem s238_2i {L : Nat} {xs : Nat → Int32} {d x : Nat} {M : qxM} {st : List Value} {a0 a2 : Option Value} {z : Int32} {y : Int32} : Rs L xs (d) 238 2 [a0, some (.int y), a2] (.int z :: st) M x = Rs L xs (d) 238 3 [a0, some (.int y), some (.int z)] st M x := Rs_next c238_2 rfl
theorem s238_2r {L : Nat} {xs : Nat → Int32} {d x : Nat} {M : qxM} {st : List Value} {a0 a2 : Option Value} {z : Int32} {y : Nat} : Rs L xs (d) 238 2 [a0, some (.ref y), a2] (.int z :: st) M x = Rs L xs (d) 238 3 [a0, some (.ref y), some (.int z)] st M x := Rs_next c238_2 rfl
theorem s238_2n {L : Nat} {xs : Nat → Int32} {d x : Nat} {M : qxM} {st : List Value} {a0 a2 : Option Value} {z : Int32} : Rs L xs (d) 238 2 [a0, none, a2] (.int z :: st) M x = Rs L xs (d) 238 3 [a0, none, some (.int z)] st M x := Rs_next c238_2 rfl
theorem c238_3 : qx_code 238 3 = some (3, .iload_n 2, 4, 0, 0, 0) := by decide +kernel
theorem s238_3 {L : Nat} {xs : Nat → Int32} {d x : Nat} {M : qxM} {st : List Value} {a0 a1 : Option Value} {z : Int32} : Rs L xs (d) 238 3 [a0, a1, some (.int z)] st M x = Rs L xs (d) 238 4 [a0, a1, some (.int z)] (.int z :: st) M x := Rs_next c238_3 rfl
theorem c238_4 : qx_code 238 4 = some (4, .sipush 335, 7, 0, 0, 0) := by decide +kernel
theorem s238_4 {L : Nat} {xs : Nat → Int32} {d x : Nat} {M : qxM} {st : List Value} {ls : qxL} : Rs L xs (d) 238 4 ls st M x = Rs L xs (d) 238 7 ls (.int (nI 335) :: st) M x := Rs_next c238_4 rfl
theorem c238_7 : qx_code 238 7 = some (7, .if_icmp .ge 16, 10, 23, 0, 0) := by decide +kernel
theorem s238_7 {L : Nat} {xs : Nat → Int32} {d x : Nat} {M : qxM} {st : List Value} {ls : qxL} {z y : Int32} : Rs L xs (d) 238 7 ls (.int y :: .int z :: st) M x = if y ≤ z then Rs L xs (d) 238 23 ls st M x else Rs L xs (d) 238 10 ls st M x := Rs_ite c238_7 rfl
theorem c238_10 : qx_code 238 10 = some (10, .aload_n 0, 11, 0, 0, 0) := by decide +kernel
theorem s238_10 {L : Nat} {xs : Nat → Int32} {d x : Nat} {M : qxM} {st : List Value} {a1 a2 : Option Value} {z : Nat} : Rs L xs (d) 238 10 [some (.ref z), a1, a2] st M x = Rs L xs (d) 238 11 [some (.ref z), a1, a2] (.ref z :: st) M x := Rs_next c238_10 rfl
theorem c238_11 : qx_code 238 11 = some (11, .getfield 9, 14, 8, 1, 1546) := by decide +kernel
theorem s238_11 {L : Nat} {xs : Nat → Int32} {d x : Nat} {M : qxM} {st : List Value} {ls : qxL} {t : Nat} (hk : qx_kd t = 18) : Rs L xs (d) 238 11 ls (.ref t :: st) M x = Rs L xs (d) 238 14 ls (.ref (t + 1) :: st) M x := Rs_when (qx_kd_obj (k := 8) (by decide) hk) c238_11 rfl
theorem c238_14 : qx_code 238 14 = some (14, .iload_n 2, 15, 0, 0, 0) := by decide +kernel
theorem s238_14 {L : Nat} {xs : Nat → Int32} {d x : Nat} {M : qxM} {st : List Value} {a0 a1 : Option Value} {z : Int32} : Rs L xs (d) 238 14 [a0, a1, some (.int z)] st M x = Rs L xs (d) 238 15 [a0, a1, some (.int z)] (.int z :: st) M x := Rs_next c238_14 rfl
theorem c238_15 : qx_code 238 15 = some (15, .iconst 0, 16, 0, 0, 0) := by decide +kernel
theorem s238_15 {L : Nat} {xs : Nat → Int32} {d x : Nat} {M : qxM} {st : List Value} {ls : qxL} : Rs L xs (d) 238 15 ls st M x = Rs L xs (d) 238 16 ls (.int (nI 0) :: st) M x := Rs_next c238_15 rfl
theorem c238_16 : qx_code 238 16 = some (16, .iastore, 17, 0, 0, 0) := by decide +kernel
theorem s238_16 {L : Nat} {xs : Nat → Int32} {d x : Nat} {M : qxM} {st : List Value} {ls : qxL} {t : Nat} {j : Int32} {z : Int32} (hk : qx_kd t = 0) (hj : qx_ib j (qx_ln t) = true) : Rs L xs (d) 238 16 ls (.int z :: .int j :: .ref t :: st) M x = Rs L xs (d) 238 17 ls st (qx_up M t j.toNatClampNeg z) x := by
  have h1 := qx_kd_row (k := 0) (by decide) hk
  exact Rs_unless (qx_ib_not hj) c238_16 (by unfold qx_act; dsimp only; rw [h1]; rfl)
theorem c238_17 : qx_code 238 17 = some (17, .iinc 2 1, 20, 0, 0, 0) := by decide +kernel
theorem s238_17i {L : Nat} {xs : Nat → Int32} {d x : Nat} {M : qxM} {st : List Value} {a0 : Option Value} {z : Int32} {y : Int32} : Rs L xs (d) 238 17 [a0, some (.int y), some (.int z)] st M x = Rs L xs (d) 238 20 [a0, some (.int y), some (.int (z + (nI 1)))] st M x := Rs_next c238_17 rfl
theorem s238_17r {L : Nat} {xs : Nat → Int32} {d x : Nat} {M : qxM} {st : List Value} {a0 : Option Value} {z : Int32} {y : Nat} : Rs L xs (d) 238 17 [a0, some (.ref y), some (.int z)] st M x = Rs L xs (d) 238 20 [a0, some (.ref y), some (.int (z + (nI 1)))] st M x := Rs_next c238_17 rfl
theorem s238_17n {L : Nat} {xs : Nat → Int32} {d x : Nat} {M : qxM} {st : List Value} {a0 : Option Value} {z : Int32} : Rs L xs (d) 238 17 [a0, none, some (.int z)] st M x = Rs L xs (d) 238 20 [a0, none, some (.int (z + (nI 1)))] st M x := Rs_next c238_17 rfl
theorem c238_20 : qx_code 238 20 = some (20, .goto (-17), 23, 3, 0, 0) := by decide +kernel
theorem s238_20 {L : Nat} {xs : Nat → Int32} {d x : Nat} {M : qxM} {st : List Value} {ls : qxL} : Rs L xs (d) 238 20 ls st M x = Rs L xs (d) 238 3 ls st M x := Rs_next c238_20 rfl
theorem c238_23 : qx_code 238 23 = some (23, .iconst 0, 24, 0, 0, 0) := by decide +kernel
theorem s238_23 {L : Nat} {xs : Nat → Int32} {d x : Nat} {M : qxM} {st : List Value} {ls : qxL} : Rs L xs (d) 238 23 ls st M x = Rs L xs (d) 238 24 ls (.int (nI 0) :: st) M x := Rs_next c238_23 rfl
theorem c238_24 : qx_code 238 24 = some (24, .istore_n 2, 25, 0, 0, 0) := by decide +kernel
theorem s238_24i {L : Nat} {xs : Nat → Int32} {d x : Nat} {M : qxM} {st : List Value} {a0 a2 : Option Value} {z : Int32} {y : Int32} : Rs L xs (d) 238 24 [a0, some (.int y), a2] (.int z :: st) M x = Rs L xs (d) 238 25 [a0, some (.int y), some (.int z)] st M x := Rs_next c238_24 rfl
theorem s238_24r {L : Nat} {xs : Nat → Int32} {d x : Nat} {M : qxM} {st : List Value} {a0 a2 : Option Value} {z : Int32} {y : Nat} : Rs L xs (d) 238 24 [a0, some (.ref y), a2] (.int z :: st) M x = Rs L xs (d) 238 25 [a0, some (.ref y), some (.int z)] st M x := Rs_next c238_24 rfl
theorem s238_24n {L : Nat} {xs : Nat → Int32} {d x : Nat} {M : qxM} {st : List Value} {a0 a2 : Option Value} {z : Int32} : Rs L xs (d) 238 24 [a0, none, a2] (.int z :: st) M x = Rs L xs (d) 238 25 [a0, none, some (.int z)] st M x := Rs_next c238_24 rfl
theorem c238_25 : qx_code 238 25 = some (25, .iload_n 2, 26, 0, 0, 0) := by decide +kernel
theorem s238_25 {L : Nat} {xs : Nat → Int32} {d x : Nat} {M : qxM} {st : List Value} {a0 a1 : Option Value} {z : Int32} : Rs L xs (d) 238 25 [a0, a1, some (.int z)] st M x = Rs L xs (d) 238 26 [a0, a1, some (.int z)] (.int z :: st) M x := Rs_next c238_25 rfl
theorem c238_26 : qx_code 238 26 = some (26, .bipush 14, 28, 0, 0, 0) := by decide +kernel
theorem s238_26 {L : Nat} {xs : Nat → Int32} {d x : Nat} {M : qxM} {st : List Value} {ls : qxL} : Rs L xs (d) 238 26 ls st M x = Rs L xs (d) 238 28 ls (.int (nI 14) :: st) M x := Rs_next c238_26 rfl
theorem c238_28 : qx_code 238 28 = some (28, .if_icmp .ge 49, 31, 77, 0, 0) := by decide +kernel
theorem s238_28 {L : Nat} {xs : Nat → Int32} {d x : Nat} {M : qxM} {st : List Value} {ls : qxL} {z y : Int32} : Rs L xs (d) 238 28 ls (.int y :: .int z :: st) M x = if y ≤ z then Rs L xs (d) 238 77 ls st M x else Rs L xs (d) 238 31 ls st M x := Rs_ite c238_28 rfl
theorem c238_31 : qx_code 238 31 = some (31, .aload_n 0, 32, 0, 0, 0) := by decide +kernel
theorem s238_31 {L : Nat} {xs : Nat → Int32} {d x : Nat} {M : qxM} {st : List Value} {a1 a2 : Option Value} {z : Nat} : Rs L xs (d) 238 31 [some (.ref z), a1, a2] st M x = Rs L xs (d) 238 32 [some (.ref z), a1, a2] (.ref z :: st) M x := Rs_next c238_31 rfl
theorem c238_32 : qx_code 238 32 = some (32, .getfield 9, 35, 8, 1, 1546) := by decide +kernel
theorem s238_32 {L : Nat} {xs : Nat → Int32} {d x : Nat} {M : qxM} {st : List Value} {ls : qxL} {t : Nat} (hk : qx_kd t = 18) : Rs L xs (d) 238 32 ls (.ref t :: st) M x = Rs L xs (d) 238 35 ls (.ref (t + 1) :: st) M x := Rs_when (qx_kd_obj (k := 8) (by decide) hk) c238_32 rfl
theorem c238_35 : qx_code 238 35 = some (35, .bipush 69, 37, 0, 0, 0) := by decide +kernel
theorem s238_35 {L : Nat} {xs : Nat → Int32} {d x : Nat} {M : qxM} {st : List Value} {ls : qxL} : Rs L xs (d) 238 35 ls st M x = Rs L xs (d) 238 37 ls (.int (nI 69) :: st) M x := Rs_next c238_35 rfl
theorem c238_37 : qx_code 238 37 = some (37, .iload_n 2, 38, 0, 0, 0) := by decide +kernel
theorem s238_37 {L : Nat} {xs : Nat → Int32} {d x : Nat} {M : qxM} {st : List Value} {a0 a1 : Option Value} {z : Int32} : Rs L xs (d) 238 37 [a0, a1, some (.int z)] st M x = Rs L xs (d) 238 38 [a0, a1, some (.int z)] (.int z :: st) M x := Rs_next c238_37 rfl
theorem c238_38 : qx_code 238 38 = some (38, .iadd, 39, 0, 0, 0) := by decide +kernel
theorem s238_38 {L : Nat} {xs : Nat → Int32} {d x : Nat} {M : qxM} {st : List Value} {ls : qxL} {z y : Int32} : Rs L xs (d) 238 38 ls (.int y :: .int z :: st) M x = Rs L xs (d) 238 39 ls (.int (z + y) :: st) M x := Rs_next c238_38 rfl
theorem c238_39 : qx_code 238 39 = some (39, .iload_n 2, 40, 0, 0, 0) := by decide +kernel
theorem s238_39 {L : Nat} {xs : Nat → Int32} {d x : Nat} {M : qxM} {st : List Value} {a0 a1 : Option Value} {z : Int32} : Rs L xs (d) 238 39 [a0, a1, some (.int z)] st M x = Rs L xs (d) 238 40 [a0, a1, some (.int z)] (.int z :: st) M x := Rs_next c238_39 rfl
theorem c238_40 : qx_code 238 40 = some (40, .iastore, 41, 0, 0, 0) := by decide +kernel
theorem s238_40 {L : Nat} {xs : Nat → Int32} {d x : Nat} {M : qxM} {st : List Value} {ls : qxL} {t : Nat} {j : Int32} {z : Int32} (hk : qx_kd t = 0) (hj : qx_ib j (qx_ln t) = true) : Rs L xs (d) 238 40 ls (.int z :: .int j :: .ref t :: st) M x = Rs L xs (d) 238 41 ls st (qx_up M t j.toNatClampNeg z) x := by
  have h1 := qx_kd_row (k := 0) (by decide) hk
  exact Rs_unless (qx_ib_not hj) c238_40 (by unfold qx_act; dsimp only; rw [h1]; rfl)
theorem c238_41 : qx_code 238 41 = some (41, .aload_n 0, 42, 0, 0, 0) := by decide +kernel
theorem s238_41 {L : Nat} {xs : Nat → Int32} {d x : Nat} {M : qxM} {st : List Value} {a1 a2 : Option Value} {z : Nat} : Rs L xs (d) 238 41 [some (.ref z), a1, a2] st M x = Rs L xs (d) 238 42 [some (.ref z), a1, a2] (.ref z :: st) M x := Rs_next c238_41 rfl
theorem c238_42 : qx_code 238 42 = some (42, .getfield 9, 45, 8, 1, 1546) := by decide +kernel
theorem s238_42 {L : Nat} {xs : Nat → Int32} {d x : Nat} {M : qxM} {st : List Value} {ls : qxL} {t : Nat} (hk : qx_kd t = 18) : Rs L xs (d) 238 42 ls (.ref t :: st) M x = Rs L xs (d) 238 45 ls (.ref (t + 1) :: st) M x := Rs_when (qx_kd_obj (k := 8) (by decide) hk) c238_42 rfl
theorem c238_45 : qx_code 238 45 = some (45, .bipush 83, 47, 0, 0, 0) := by decide +kernel
theorem s238_45 {L : Nat} {xs : Nat → Int32} {d x : Nat} {M : qxM} {st : List Value} {ls : qxL} : Rs L xs (d) 238 45 ls st M x = Rs L xs (d) 238 47 ls (.int (nI 83) :: st) M x := Rs_next c238_45 rfl
theorem c238_47 : qx_code 238 47 = some (47, .iload_n 2, 48, 0, 0, 0) := by decide +kernel
theorem s238_47 {L : Nat} {xs : Nat → Int32} {d x : Nat} {M : qxM} {st : List Value} {a0 a1 : Option Value} {z : Int32} : Rs L xs (d) 238 47 [a0, a1, some (.int z)] st M x = Rs L xs (d) 238 48 [a0, a1, some (.int z)] (.int z :: st) M x := Rs_next c238_47 rfl
theorem c238_48 : qx_code 238 48 = some (48, .iadd, 49, 0, 0, 0) := by decide +kernel
theorem s238_48 {L : Nat} {xs : Nat → Int32} {d x : Nat} {M : qxM} {st : List Value} {ls : qxL} {z y : Int32} : Rs L xs (d) 238 48 ls (.int y :: .int z :: st) M x = Rs L xs (d) 238 49 ls (.int (z + y) :: st) M x := Rs_next c238_48 rfl
theorem c238_49 : qx_code 238 49 = some (49, .iconst (-1), 50, 0, 0, 0) := by decide +kernel
theorem s238_49 {L : Nat} {xs : Nat → Int32} {d x : Nat} {M : qxM} {st : List Value} {ls : qxL} : Rs L xs (d) 238 49 ls st M x = Rs L xs (d) 238 50 ls (.int (-1) :: st) M x := Rs_next c238_49 rfl
theorem c238_50 : qx_code 238 50 = some (50, .iastore, 51, 0, 0, 0) := by decide +kernel
theorem s238_50 {L : Nat} {xs : Nat → Int32} {d x : Nat} {M : qxM} {st : List Value} {ls : qxL} {t : Nat} {j : Int32} {z : Int32} (hk : qx_kd t = 0) (hj : qx_ib j (qx_ln t) = true) : Rs L xs (d) 238 50 ls (.int z :: .int j :: .ref t :: st) M x = Rs L xs (d) 238 51 ls st (qx_up M t j.toNatClampNeg z) x := by
  have h1 := qx_kd_row (k := 0) (by decide) hk
  exact Rs_unless (qx_ib_not hj) c238_50 (by unfold qx_act; dsimp only; rw [h1]; rfl)
theorem c238_51 : qx_code 238 51 = some (51, .aload_n 0, 52, 0, 0, 0) := by decide +kernel
theorem s238_51 {L : Nat} {xs : Nat → Int32} {d x : Nat} {M : qxM} {st : List Value} {a1 a2 : Option Value} {z : Nat} : Rs L xs (d) 238 51 [some (.ref z), a1, a2] st M x = Rs L xs (d) 238 52 [some (.ref z), a1, a2] (.ref z :: st) M x := Rs_next c238_51 rfl
theorem c238_52 : qx_code 238 52 = some (52, .getfield 9, 55, 8, 1, 1546) := by decide +kernel
theorem s238_52 {L : Nat} {xs : Nat → Int32} {d x : Nat} {M : qxM} {st : List Value} {ls : qxL} {t : Nat} (hk : qx_kd t = 18) : Rs L xs (d) 238 52 ls (.ref t :: st) M x = Rs L xs (d) 238 55 ls (.ref (t + 1) :: st) M x := Rs_when (qx_kd_obj (k := 8) (by decide) hk) c238_52 rfl
theorem c238_55 : qx_code 238 55 = some (55, .bipush 97, 57, 0, 0, 0) := by decide +kernel
theorem s238_55 {L : Nat} {xs : Nat → Int32} {d x : Nat} {M : qxM} {st : List Value} {ls : qxL} : Rs L xs (d) 238 55 ls st M x = Rs L xs (d) 238 57 ls (.int (nI 97) :: st) M x := Rs_next c238_55 rfl
theorem c238_57 : qx_code 238 57 = some (57, .iload_n 2, 58, 0, 0, 0) := by decide +kernel
theorem s238_57 {L : Nat} {xs : Nat → Int32} {d x : Nat} {M : qxM} {st : List Value} {a0 a1 : Option Value} {z : Int32} : Rs L xs (d) 238 57 [a0, a1, some (.int z)] st M x = Rs L xs (d) 238 58 [a0, a1, some (.int z)] (.int z :: st) M x := Rs_next c238_57 rfl
theorem c238_58 : qx_code 238 58 = some (58, .iadd, 59, 0, 0, 0) := by decide +kernel
theorem s238_58 {L : Nat} {xs : Nat → Int32} {d x : Nat} {M : qxM} {st : List Value} {ls : qxL} {z y : Int32} : Rs L xs (d) 238 58 ls (.int y :: .int z :: st) M x = Rs L xs (d) 238 59 ls (.int (z + y) :: st) M x := Rs_next c238_58 rfl
theorem c238_59 : qx_code 238 59 = some (59, .iconst (-1), 60, 0, 0, 0) := by decide +kernel
theorem s238_59 {L : Nat} {xs : Nat → Int32} {d x : Nat} {M : qxM} {st : List Value} {ls : qxL} : Rs L xs (d) 238 59 ls st M x = Rs L xs (d) 238 60 ls (.int (-1) :: st) M x := Rs_next c238_59 rfl
theorem c238_60 : qx_code 238 60 = some (60, .iastore, 61, 0, 0, 0) := by decide +kernel
theorem s238_60 {L : Nat} {xs : Nat → Int32} {d x : Nat} {M : qxM} {st : List Value} {ls : qxL} {t : Nat} {j : Int32} {z : Int32} (hk : qx_kd t = 0) (hj : qx_ib j (qx_ln t) = true) : Rs L xs (d) 238 60 ls (.int z :: .int j :: .ref t :: st) M x = Rs L xs (d) 238 61 ls st (qx_up M t j.toNatClampNeg z) x := by
  have h1 := qx_kd_row (k := 0) (by decide) hk
  exact Rs_unless (qx_ib_not hj) c238_60 (by unfold qx_act; dsimp only; rw [h1]; rfl)
theorem c238_61 : qx_code 238 61 = some (61, .aload_n 0, 62, 0, 0, 0) := by decide +kernel
theorem s238_61 {L : Nat} {xs : Nat → Int32} {d x : Nat} {M : qxM} {st : List Value} {a1 a2 : Option Value} {z : Nat} : Rs L xs (d) 238 61 [some (.ref z), a1, a2] st M x = Rs L xs (d) 238 62 [some (.ref z), a1, a2] (.ref z :: st) M x := Rs_next c238_61 rfl
theorem c238_62 : qx_code 238 62 = some (62, .getfield 9, 65, 8, 1, 1546) := by decide +kernel
theorem s238_62 {L : Nat} {xs : Nat → Int32} {d x : Nat} {M : qxM} {st : List Value} {ls : qxL} {t : Nat} (hk : qx_kd t = 18) : Rs L xs (d) 238 62 ls (.ref t :: st) M x = Rs L xs (d) 238 65 ls (.ref (t + 1) :: st) M x := Rs_when (qx_kd_obj (k := 8) (by decide) hk) c238_62 rfl
theorem c238_65 : qx_code 238 65 = some (65, .bipush 111, 67, 0, 0, 0) := by decide +kernel
theorem s238_65 {L : Nat} {xs : Nat → Int32} {d x : Nat} {M : qxM} {st : List Value} {ls : qxL} : Rs L xs (d) 238 65 ls st M x = Rs L xs (d) 238 67 ls (.int (nI 111) :: st) M x := Rs_next c238_65 rfl
theorem c238_67 : qx_code 238 67 = some (67, .iload_n 2, 68, 0, 0, 0) := by decide +kernel
theorem s238_67 {L : Nat} {xs : Nat → Int32} {d x : Nat} {M : qxM} {st : List Value} {a0 a1 : Option Value} {z : Int32} : Rs L xs (d) 238 67 [a0, a1, some (.int z)] st M x = Rs L xs (d) 238 68 [a0, a1, some (.int z)] (.int z :: st) M x := Rs_next c238_67 rfl
theorem c238_68 : qx_code 238 68 = some (68, .iadd, 69, 0, 0, 0) := by decide +kernel
theorem s238_68 {L : Nat} {xs : Nat → Int32} {d x : Nat} {M : qxM} {st : List Value} {ls : qxL} {z y : Int32} : Rs L xs (d) 238 68 ls (.int y :: .int z :: st) M x = Rs L xs (d) 238 69 ls (.int (z + y) :: st) M x := Rs_next c238_68 rfl
theorem c238_69 : qx_code 238 69 = some (69, .iconst (-1), 70, 0, 0, 0) := by decide +kernel
theorem s238_69 {L : Nat} {xs : Nat → Int32} {d x : Nat} {M : qxM} {st : List Value} {ls : qxL} : Rs L xs (d) 238 69 ls st M x = Rs L xs (d) 238 70 ls (.int (-1) :: st) M x := Rs_next c238_69 rfl
theorem c238_70 : qx_code 238 70 = some (70, .iastore, 71, 0, 0, 0) := by decide +kernel
theorem s238_70 {L : Nat} {xs : Nat → Int32} {d x : Nat} {M : qxM} {st : List Value} {ls : qxL} {t : Nat} {j : Int32} {z : Int32} (hk : qx_kd t = 0) (hj : qx_ib j (qx_ln t) = true) : Rs L xs (d) 238 70 ls (.int z :: .int j :: .ref t :: st) M x = Rs L xs (d) 238 71 ls st (qx_up M t j.toNatClampNeg z) x := by
  have h1 := qx_kd_row (k := 0) (by decide) hk
  exact Rs_unless (qx_ib_not hj) c238_70 (by unfold qx_act; dsimp only; rw [h1]; rfl)
theorem c238_71 : qx_code 238 71 = some (71, .iinc 2 1, 74, 0, 0, 0) := by decide +kernel
theorem s238_71i {L : Nat} {xs : Nat → Int32} {d x : Nat} {M : qxM} {st : List Value} {a0 : Option Value} {z : Int32} {y : Int32} : Rs L xs (d) 238 71 [a0, some (.int y), some (.int z)] st M x = Rs L xs (d) 238 74 [a0, some (.int y), some (.int (z + (nI 1)))] st M x := Rs_next c238_71 rfl
theorem s238_71r {L : Nat} {xs : Nat → Int32} {d x : Nat} {M : qxM} {st : List Value} {a0 : Option Value} {z : Int32} {y : Nat} : Rs L xs (d) 238 71 [a0, some (.ref y), some (.int z)] st M x = Rs L xs (d) 238 74 [a0, some (.ref y), some (.int (z + (nI 1)))] st M x := Rs_next c238_71 rfl
theorem s238_71n {L : Nat} {xs : Nat → Int32} {d x : Nat} {M : qxM} {st : List Value} {a0 : Option Value} {z : Int32} : Rs L xs (d) 238 71 [a0, none, some (.int z)] st M x = Rs L xs (d) 238 74 [a0, none, some (.int (z + (nI 1)))] st M x := Rs_next c238_71 rfl
theorem c238_74 : qx_code 238 74 = some (74, .goto (-49), 77, 25, 0, 0) := by decide +kernel
theorem s238_74 {L : Nat} {xs : Nat → Int32} {d x : Nat} {M : qxM} {st : List Value} {ls : qxL} : Rs L xs (d) 238 74 ls st M x = Rs L xs (d) 238 25 ls st M x := Rs_next c238_74 rfl
theorem c238_77 : qx_code 238 77 = some (77, .aload_n 0, 78, 0, 0, 0) := by decide +kernel
theorem s238_77 {L : Nat} {xs : Nat → Int32} {d x : Nat} {M : qxM} {st : List Value} {a1 a2 : Option Value} {z : Nat} : Rs L xs (d) 238 77 [some (.ref z), a1, a2] st M x = Rs L xs (d) 238 78 [some (.ref z), a1, a2] (.ref z :: st) M x := Rs_next c238_77 rfl
theorem c238_78 : qx_code 238 78 = some (78, .getfield 9, 81, 8, 1, 1546) := by decide +kernel
theorem s238_78 {L : Nat} {xs : Nat → Int32} {d x : Nat} {M : qxM} {st : List Value} {ls : qxL} {t : Nat} (hk : qx_kd t = 18) : Rs L xs (d) 238 78 ls (.ref t :: st) M x = Rs L xs (d) 238 81 ls (.ref (t + 1) :: st) M x := Rs_when (qx_kd_obj (k := 8) (by decide) hk) c238_78 rfl
theorem c238_81 : qx_code 238 81 = some (81, .bipush 35, 83, 0, 0, 0) := by decide +kernel
theorem s238_81 {L : Nat} {xs : Nat → Int32} {d x : Nat} {M : qxM} {st : List Value} {ls : qxL} : Rs L xs (d) 238 81 ls st M x = Rs L xs (d) 238 83 ls (.int (nI 35) :: st) M x := Rs_next c238_81 rfl
theorem c238_83 : qx_code 238 83 = some (83, .iconst 1, 84, 0, 0, 0) := by decide +kernel
theorem s238_83 {L : Nat} {xs : Nat → Int32} {d x : Nat} {M : qxM} {st : List Value} {ls : qxL} : Rs L xs (d) 238 83 ls st M x = Rs L xs (d) 238 84 ls (.int (nI 1) :: st) M x := Rs_next c238_83 rfl
theorem c238_84 : qx_code 238 84 = some (84, .iastore, 85, 0, 0, 0) := by decide +kernel
theorem s238_84 {L : Nat} {xs : Nat → Int32} {d x : Nat} {M : qxM} {st : List Value} {ls : qxL} {t : Nat} {j : Int32} {z : Int32} (hk : qx_kd t = 0) (hj : qx_ib j (qx_ln t) = true) : Rs L xs (d) 238 84 ls (.int z :: .int j :: .ref t :: st) M x = Rs L xs (d) 238 85 ls st (qx_up M t j.toNatClampNeg z) x := by
  have h1 := qx_kd_row (k := 0) (by decide) hk
  exact Rs_unless (qx_ib_not hj) c238_84 (by unfold qx_act; dsimp only; rw [h1]; rfl)
theorem c238_85 : qx_code 238 85 = some (85, .aload_n 0, 86, 0, 0, 0) := by decide +kernel
theorem s238_85 {L : Nat} {xs : Nat → Int32} {d x : Nat} {M : qxM} {st : List Value} {a1 a2 : Option Value} {z : Nat} : Rs L xs (d) 238 85 [some (.ref z), a1, a2] st M x = Rs L xs (d) 238 86 [some (.ref z), a1, a2] (.ref z :: st) M x := Rs_next c238_85 rfl
theorem c238_86 : qx_code 238 86 = some (86, .getfield 9, 89, 8, 1, 1546) := by decide +kernel
theorem s238_86 {L : Nat} {xs : Nat → Int32} {d x : Nat} {M : qxM} {st : List Value} {ls : qxL} {t : Nat} (hk : qx_kd t = 18) : Rs L xs (d) 238 86 ls (.ref t :: st) M x = Rs L xs (d) 238 89 ls (.ref (t + 1) :: st) M x := Rs_when (qx_kd_obj (k := 8) (by decide) hk) c238_86 rfl
theorem c238_89 : qx_code 238 89 = some (89, .bipush 36, 91, 0, 0, 0) := by decide +kernel
theorem s238_89 {L : Nat} {xs : Nat → Int32} {d x : Nat} {M : qxM} {st : List Value} {ls : qxL} : Rs L xs (d) 238 89 ls st M x = Rs L xs (d) 238 91 ls (.int (nI 36) :: st) M x := Rs_next c238_89 rfl
theorem c238_91 : qx_code 238 91 = some (91, .iload_n 1, 92, 0, 0, 0) := by decide +kernel
theorem s238_91 {L : Nat} {xs : Nat → Int32} {d x : Nat} {M : qxM} {st : List Value} {a0 a2 : Option Value} {z : Int32} : Rs L xs (d) 238 91 [a0, some (.int z), a2] st M x = Rs L xs (d) 238 92 [a0, some (.int z), a2] (.int z :: st) M x := Rs_next c238_91 rfl
theorem c238_92 : qx_code 238 92 = some (92, .iastore, 93, 0, 0, 0) := by decide +kernel
theorem s238_92 {L : Nat} {xs : Nat → Int32} {d x : Nat} {M : qxM} {st : List Value} {ls : qxL} {t : Nat} {j : Int32} {z : Int32} (hk : qx_kd t = 0) (hj : qx_ib j (qx_ln t) = true) : Rs L xs (d) 238 92 ls (.int z :: .int j :: .ref t :: st) M x = Rs L xs (d) 238 93 ls st (qx_up M t j.toNatClampNeg z) x := by
  have h1 := qx_kd_row (k := 0) (by decide) hk
  exact Rs_unless (qx_ib_not hj) c238_92 (by unfold qx_act; dsimp only; rw [h1]; rfl)
theorem c238_93 : qx_code 238 93 = some (93, .aload_n 0, 94, 0, 0, 0) := by decide +kernel
theorem s238_93 {L : Nat} {xs : Nat → Int32} {d x : Nat} {M : qxM} {st : List Value} {a1 a2 : Option Value} {z : Nat} : Rs L xs (d) 238 93 [some (.ref z), a1, a2] st M x = Rs L xs (d) 238 94 [some (.ref z), a1, a2] (.ref z :: st) M x := Rs_next c238_93 rfl
theorem c238_94 : qx_code 238 94 = some (94, .iload_n 1, 95, 0, 0, 0) := by decide +kernel
theorem s238_94 {L : Nat} {xs : Nat → Int32} {d x : Nat} {M : qxM} {st : List Value} {a0 a2 : Option Value} {z : Int32} : Rs L xs (d) 238 94 [a0, some (.int z), a2] st M x = Rs L xs (d) 238 95 [a0, some (.int z), a2] (.int z :: st) M x := Rs_next c238_94 rfl
theorem c238_95 : qx_code 238 95 = some (95, .iconst 1, 96, 0, 0, 0) := by decide +kernel
theorem s238_95 {L : Nat} {xs : Nat → Int32} {d x : Nat} {M : qxM} {st : List Value} {ls : qxL} : Rs L xs (d) 238 95 ls st M x = Rs L xs (d) 238 96 ls (.int (nI 1) :: st) M x := Rs_next c238_95 rfl
theorem c238_96 : qx_code 238 96 = some (96, .invokevirtual 247, 99, 233, 3, 2077) := by decide +kernel
theorem s238_96 {L : Nat} {xs : Nat → Int32} {d x : Nat} {M : qxM} {st : List Value} {ls : qxL} {t : Nat} {z0 : Int32} {z1 : Int32} (hk : qx_kd t = 18) (hs : st.length ≤ 4) : Rs L xs (d + 1) 238 96 ls (.int z1 :: .int z0 :: .ref t :: st) M x = (Rs L xs d 233 0 [some (.ref t), some (.int z0), some (.int z1)] [] M 0).bind (qx_kn L xs (d + 1) 238 96 99 233 ls st x) := by
  have h1 : qx_act L xs (qx_rt 238) (96, .invokevirtual 247, 99, 233, 3, 2077) ls (.int z1 :: .int z0 :: .ref t :: st) M = if 3 ≤ (.int z1 :: .int z0 :: .ref t :: st).length ∧ st.length ≤ 4 then some (.inr (.inr (.inr (233, [.ref t, .int z0, .int z1], st)))) else none := rfl
  rw [if_pos ⟨by simp [List.length_cons]; try omega, hs⟩] at h1
  have h2 := qx_kd_obj (k := 8) (by decide) hk
  exact Rs_call c238_96 h1 (by rw [show qx_args 233 [.ref t, .int z0, .int z1] = decide (qx_sh t = some (.inl 8)) from rfl]; exact decide_eq_true h2)
theorem c238_99 : qx_code 238 99 = some (99, .istore_n 2, 100, 0, 0, 0) := by decide +kernel
theorem s238_99i {L : Nat} {xs : Nat → Int32} {d x : Nat} {M : qxM} {st : List Value} {a0 a2 : Option Value} {z : Int32} {y : Int32} : Rs L xs (d) 238 99 [a0, some (.int y), a2] (.int z :: st) M x = Rs L xs (d) 238 100 [a0, some (.int y), some (.int z)] st M x := Rs_next c238_99 rfl
theorem s238_99r {L : Nat} {xs : Nat → Int32} {d x : Nat} {M : qxM} {st : List Value} {a0 a2 : Option Value} {z : Int32} {y : Nat} : Rs L xs (d) 238 99 [a0, some (.ref y), a2] (.int z :: st) M x = Rs L xs (d) 238 100 [a0, some (.ref y), some (.int z)] st M x := Rs_next c238_99 rfl
theorem s238_99n {L : Nat} {xs : Nat → Int32} {d x : Nat} {M : qxM} {st : List Value} {a0 a2 : Option Value} {z : Int32} : Rs L xs (d) 238 99 [a0, none, a2] (.int z :: st) M x = Rs L xs (d) 238 100 [a0, none, some (.int z)] st M x := Rs_next c238_99 rfl
theorem c238_100 : qx_code 238 100 = some (100, .aload_n 0, 101, 0, 0, 0) := by decide +kernel
theorem s238_100 {L : Nat} {xs : Nat → Int32} {d x : Nat} {M : qxM} {st : List Value} {a1 a2 : Option Value} {z : Nat} : Rs L xs (d) 238 100 [some (.ref z), a1, a2] st M x = Rs L xs (d) 238 101 [some (.ref z), a1, a2] (.ref z :: st) M x := Rs_next c238_100 rfl
theorem c238_101 : qx_code 238 101 = some (101, .iload_n 1, 102, 0, 0, 0) := by decide +kernel
theorem s238_101 {L : Nat} {xs : Nat → Int32} {d x : Nat} {M : qxM} {st : List Value} {a0 a2 : Option Value} {z : Int32} : Rs L xs (d) 238 101 [a0, some (.int z), a2] st M x = Rs L xs (d) 238 102 [a0, some (.int z), a2] (.int z :: st) M x := Rs_next c238_101 rfl
theorem c238_102 : qx_code 238 102 = some (102, .iload_n 1, 103, 0, 0, 0) := by decide +kernel
theorem s238_102 {L : Nat} {xs : Nat → Int32} {d x : Nat} {M : qxM} {st : List Value} {a0 a2 : Option Value} {z : Int32} : Rs L xs (d) 238 102 [a0, some (.int z), a2] st M x = Rs L xs (d) 238 103 [a0, some (.int z), a2] (.int z :: st) M x := Rs_next c238_102 rfl
theorem c238_103 : qx_code 238 103 = some (103, .invokevirtual 244, 106, 236, 3, 2081) := by decide +kernel
theorem s238_103 {L : Nat} {xs : Nat → Int32} {d x : Nat} {M : qxM} {st : List Value} {ls : qxL} {t : Nat} {z0 : Int32} {z1 : Int32} (hk : qx_kd t = 18) (hs : st.length ≤ 4) : Rs L xs (d + 1) 238 103 ls (.int z1 :: .int z0 :: .ref t :: st) M x = (Rs L xs d 236 0 [some (.ref t), some (.int z0), some (.int z1)] [] M 0).bind (qx_kn L xs (d + 1) 238 103 106 236 ls st x) := by
  have h1 : qx_act L xs (qx_rt 238) (103, .invokevirtual 244, 106, 236, 3, 2081) ls (.int z1 :: .int z0 :: .ref t :: st) M = if 3 ≤ (.int z1 :: .int z0 :: .ref t :: st).length ∧ st.length ≤ 4 then some (.inr (.inr (.inr (236, [.ref t, .int z0, .int z1], st)))) else none := rfl
  rw [if_pos ⟨by simp [List.length_cons]; try omega, hs⟩] at h1
  have h2 := qx_kd_obj (k := 8) (by decide) hk
  exact Rs_call c238_103 h1 (by rw [show qx_args 236 [.ref t, .int z0, .int z1] = decide (qx_sh t = some (.inl 8)) from rfl]; exact decide_eq_true h2)
theorem c238_106 : qx_code 238 106 = some (106, .aload_n 0, 107, 0, 0, 0) := by decide +kernel
theorem s238_106 {L : Nat} {xs : Nat → Int32} {d x : Nat} {M : qxM} {st : List Value} {a1 a2 : Option Value} {z : Nat} : Rs L xs (d) 238 106 [some (.ref z), a1, a2] st M x = Rs L xs (d) 238 107 [some (.ref z), a1, a2] (.ref z :: st) M x := Rs_next c238_106 rfl
theorem c238_107 : qx_code 238 107 = some (107, .iload_n 1, 108, 0, 0, 0) := by decide +kernel
theorem s238_107 {L : Nat} {xs : Nat → Int32} {d x : Nat} {M : qxM} {st : List Value} {a0 a2 : Option Value} {z : Int32} : Rs L xs (d) 238 107 [a0, some (.int z), a2] st M x = Rs L xs (d) 238 108 [a0, some (.int z), a2] (.int z :: st) M x := Rs_next c238_107 rfl
theorem c238_108 : qx_code 238 108 = some (108, .invokevirtual 250, 111, 234, 2, 2085) := by decide +kernel
theorem s238_108 {L : Nat} {xs : Nat → Int32} {d x : Nat} {M : qxM} {st : List Value} {ls : qxL} {t : Nat} {z0 : Int32} (hk : qx_kd t = 18) (hs : st.length ≤ 4) : Rs L xs (d + 1) 238 108 ls (.int z0 :: .ref t :: st) M x = (Rs L xs d 234 0 [some (.ref t), some (.int z0)] [] M 0).bind (qx_kn L xs (d + 1) 238 108 111 234 ls st x) := by
  have h1 : qx_act L xs (qx_rt 238) (108, .invokevirtual 250, 111, 234, 2, 2085) ls (.int z0 :: .ref t :: st) M = if 2 ≤ (.int z0 :: .ref t :: st).length ∧ st.length ≤ 4 then some (.inr (.inr (.inr (234, [.ref t, .int z0], st)))) else none := rfl
  rw [if_pos ⟨by simp [List.length_cons]; try omega, hs⟩] at h1
  have h2 := qx_kd_obj (k := 8) (by decide) hk
  exact Rs_call c238_108 h1 (by rw [show qx_args 234 [.ref t, .int z0] = decide (qx_sh t = some (.inl 8)) from rfl]; exact decide_eq_true h2)
theorem c238_111 : qx_code 238 111 = some (111, .return_, 112, 0, 0, 0) := by decide +kernel
theorem s238_111 {L : Nat} {xs : Nat → Int32} {d x : Nat} {M : qxM} {ls : qxL} : Rs L xs (d) 238 111 ls [] M x = some (.inl none, M, x) := Rs_ret c238_111 rfl
theorem c239_0 : qx_code 239 0 = some (0, .aload_n 0, 1, 0, 0, 0) := by decide +kernel
theorem s239_0 {L : Nat} {xs : Nat → Int32} {d x : Nat} {M : qxM} {st : List Value} {z : Nat} : Rs L xs (d) 239 0 [some (.ref z)] st M x = Rs L xs (d) 239 1 [some (.ref z)] (.ref z :: st) M x := Rs_next c239_0 rfl
theorem c239_1 : qx_code 239 1 = some (1, .getfield 9, 4, 8, 1, 1546) := by decide +kernel
theorem s239_1 {L : Nat} {xs : Nat → Int32} {d x : Nat} {M : qxM} {st : List Value} {ls : qxL} {t : Nat} (hk : qx_kd t = 18) : Rs L xs (d) 239 1 ls (.ref t :: st) M x = Rs L xs (d) 239 4 ls (.ref (t + 1) :: st) M x := Rs_when (qx_kd_obj (k := 8) (by decide) hk) c239_1 rfl
theorem c239_4 : qx_code 239 4 = some (4, .bipush 35, 6, 0, 0, 0) := by decide +kernel
theorem s239_4 {L : Nat} {xs : Nat → Int32} {d x : Nat} {M : qxM} {st : List Value} {ls : qxL} : Rs L xs (d) 239 4 ls st M x = Rs L xs (d) 239 6 ls (.int (nI 35) :: st) M x := Rs_next c239_4 rfl
theorem c239_6 : qx_code 239 6 = some (6, .iconst 0, 7, 0, 0, 0) := by decide +kernel
theorem s239_6 {L : Nat} {xs : Nat → Int32} {d x : Nat} {M : qxM} {st : List Value} {ls : qxL} : Rs L xs (d) 239 6 ls st M x = Rs L xs (d) 239 7 ls (.int (nI 0) :: st) M x := Rs_next c239_6 rfl
theorem c239_7 : qx_code 239 7 = some (7, .iastore, 8, 0, 0, 0) := by decide +kernel
theorem s239_7 {L : Nat} {xs : Nat → Int32} {d x : Nat} {M : qxM} {st : List Value} {ls : qxL} {t : Nat} {j : Int32} {z : Int32} (hk : qx_kd t = 0) (hj : qx_ib j (qx_ln t) = true) : Rs L xs (d) 239 7 ls (.int z :: .int j :: .ref t :: st) M x = Rs L xs (d) 239 8 ls st (qx_up M t j.toNatClampNeg z) x := by
  have h1 := qx_kd_row (k := 0) (by decide) hk
  exact Rs_unless (qx_ib_not hj) c239_7 (by unfold qx_act; dsimp only; rw [h1]; rfl)
theorem c239_8 : qx_code 239 8 = some (8, .return_, 9, 0, 0, 0) := by decide +kernel
theorem s239_8 {L : Nat} {xs : Nat → Int32} {d x : Nat} {M : qxM} {ls : qxL} : Rs L xs (d) 239 8 ls [] M x = some (.inl none, M, x) := Rs_ret c239_8 rfl
theorem c240_0 : qx_code 240 0 = some (0, .aload_n 0, 1, 0, 0, 0) := by decide +kernel
theorem s240_0 {L : Nat} {xs : Nat → Int32} {d x : Nat} {M : qxM} {st : List Value} {a1 : Option Value} {z : Nat} : Rs L xs (d) 240 0 [some (.ref z), a1] st M x = Rs L xs (d) 240 1 [some (.ref z), a1] (.ref z :: st) M x := Rs_next c240_0 rfl
theorem c240_1 : qx_code 240 1 = some (1, .aload_n 0, 2, 0, 0, 0) := by decide +kernel
theorem s240_1 {L : Nat} {xs : Nat → Int32} {d x : Nat} {M : qxM} {st : List Value} {a1 : Option Value} {z : Nat} : Rs L xs (d) 240 1 [some (.ref z), a1] st M x = Rs L xs (d) 240 2 [some (.ref z), a1] (.ref z :: st) M x := Rs_next c240_1 rfl
theorem c240_2 : qx_code 240 2 = some (2, .getfield 9, 5, 8, 1, 1546) := by decide +kernel
theorem s240_2 {L : Nat} {xs : Nat → Int32} {d x : Nat} {M : qxM} {st : List Value} {ls : qxL} {t : Nat} (hk : qx_kd t = 18) : Rs L xs (d) 240 2 ls (.ref t :: st) M x = Rs L xs (d) 240 5 ls (.ref (t + 1) :: st) M x := Rs_when (qx_kd_obj (k := 8) (by decide) hk) c240_2 rfl
theorem c240_5 : qx_code 240 5 = some (5, .bipush 41, 7, 0, 0, 0) := by decide +kernel
theorem s240_5 {L : Nat} {xs : Nat → Int32} {d x : Nat} {M : qxM} {st : List Value} {ls : qxL} : Rs L xs (d) 240 5 ls st M x = Rs L xs (d) 240 7 ls (.int (nI 41) :: st) M x := Rs_next c240_5 rfl
theorem c240_7 : qx_code 240 7 = some (7, .iaload, 8, 0, 0, 0) := by decide +kernel
theorem s240_7 {L : Nat} {xs : Nat → Int32} {d x : Nat} {M : qxM} {st : List Value} {ls : qxL} {t : Nat} {j : Int32} (hk : qx_kd t = 0) (hj : qx_ib j (qx_ln t) = true) : Rs L xs (d) 240 7 ls (.int j :: .ref t :: st) M x = Rs L xs (d) 240 8 ls (.int (M.1 t j.toNatClampNeg) :: st) M x := by
  have h1 := qx_kd_row (k := 0) (by decide) hk
  exact Rs_unless (qx_ib_not hj) c240_7 (by unfold qx_act; dsimp only; rw [h1]; rfl)
theorem c240_8 : qx_code 240 8 = some (8, .invokevirtual 210, 11, 220, 2, 1781) := by decide +kernel
theorem s240_8 {L : Nat} {xs : Nat → Int32} {d x : Nat} {M : qxM} {st : List Value} {ls : qxL} {t : Nat} {z0 : Int32} (hk : qx_kd t = 18) (hs : st.length ≤ 4) : Rs L xs (d + 1) 240 8 ls (.int z0 :: .ref t :: st) M x = (Rs L xs d 220 0 [some (.ref t), some (.int z0), none, none] [] M 0).bind (qx_kn L xs (d + 1) 240 8 11 220 ls st x) := by
  have h1 : qx_act L xs (qx_rt 240) (8, .invokevirtual 210, 11, 220, 2, 1781) ls (.int z0 :: .ref t :: st) M = if 2 ≤ (.int z0 :: .ref t :: st).length ∧ st.length ≤ 4 then some (.inr (.inr (.inr (220, [.ref t, .int z0], st)))) else none := rfl
  rw [if_pos ⟨by simp [List.length_cons]; try omega, hs⟩] at h1
  have h2 := qx_kd_obj (k := 8) (by decide) hk
  exact Rs_call c240_8 h1 (by rw [show qx_args 220 [.ref t, .int z0] = decide (qx_sh t = some (.inl 8)) from rfl]; exact decide_eq_true h2)
theorem c240_11 : qx_code 240 11 = some (11, .aload_n 0, 12, 0, 0, 0) := by decide +kernel
theorem s240_11 {L : Nat} {xs : Nat → Int32} {d x : Nat} {M : qxM} {st : List Value} {a1 : Option Value} {z : Nat} : Rs L xs (d) 240 11 [some (.ref z), a1] st M x = Rs L xs (d) 240 12 [some (.ref z), a1] (.ref z :: st) M x := Rs_next c240_11 rfl
theorem c240_12 : qx_code 240 12 = some (12, .getfield 9, 15, 8, 1, 1546) := by decide +kernel
theorem s240_12 {L : Nat} {xs : Nat → Int32} {d x : Nat} {M : qxM} {st : List Value} {ls : qxL} {t : Nat} (hk : qx_kd t = 18) : Rs L xs (d) 240 12 ls (.ref t :: st) M x = Rs L xs (d) 240 15 ls (.ref (t + 1) :: st) M x := Rs_when (qx_kd_obj (k := 8) (by decide) hk) c240_12 rfl
theorem c240_15 : qx_code 240 15 = some (15, .bipush 39, 17, 0, 0, 0) := by decide +kernel
theorem s240_15 {L : Nat} {xs : Nat → Int32} {d x : Nat} {M : qxM} {st : List Value} {ls : qxL} : Rs L xs (d) 240 15 ls st M x = Rs L xs (d) 240 17 ls (.int (nI 39) :: st) M x := Rs_next c240_15 rfl
theorem c240_17 : qx_code 240 17 = some (17, .iaload, 18, 0, 0, 0) := by decide +kernel
theorem s240_17 {L : Nat} {xs : Nat → Int32} {d x : Nat} {M : qxM} {st : List Value} {ls : qxL} {t : Nat} {j : Int32} (hk : qx_kd t = 0) (hj : qx_ib j (qx_ln t) = true) : Rs L xs (d) 240 17 ls (.int j :: .ref t :: st) M x = Rs L xs (d) 240 18 ls (.int (M.1 t j.toNatClampNeg) :: st) M x := by
  have h1 := qx_kd_row (k := 0) (by decide) hk
  exact Rs_unless (qx_ib_not hj) c240_17 (by unfold qx_act; dsimp only; rw [h1]; rfl)
theorem c240_18 : qx_code 240 18 = some (18, .ishr, 19, 0, 0, 0) := by decide +kernel
theorem s240_18 {L : Nat} {xs : Nat → Int32} {d x : Nat} {M : qxM} {st : List Value} {ls : qxL} {z y : Int32} : Rs L xs (d) 240 18 ls (.int y :: .int z :: st) M x = Rs L xs (d) 240 19 ls (.int (z >>> (y &&& 31)) :: st) M x := Rs_next c240_18 rfl
theorem c240_19 : qx_code 240 19 = some (19, .aload_n 0, 20, 0, 0, 0) := by decide +kernel
theorem s240_19 {L : Nat} {xs : Nat → Int32} {d x : Nat} {M : qxM} {st : List Value} {a1 : Option Value} {z : Nat} : Rs L xs (d) 240 19 [some (.ref z), a1] st M x = Rs L xs (d) 240 20 [some (.ref z), a1] (.ref z :: st) M x := Rs_next c240_19 rfl
theorem c240_20 : qx_code 240 20 = some (20, .getfield 9, 23, 8, 1, 1546) := by decide +kernel
theorem s240_20 {L : Nat} {xs : Nat → Int32} {d x : Nat} {M : qxM} {st : List Value} {ls : qxL} {t : Nat} (hk : qx_kd t = 18) : Rs L xs (d) 240 20 ls (.ref t :: st) M x = Rs L xs (d) 240 23 ls (.ref (t + 1) :: st) M x := Rs_when (qx_kd_obj (k := 8) (by decide) hk) c240_20 rfl
theorem c240_23 : qx_code 240 23 = some (23, .bipush 39, 25, 0, 0, 0) := by decide +kernel
theorem s240_23 {L : Nat} {xs : Nat → Int32} {d x : Nat} {M : qxM} {st : List Value} {ls : qxL} : Rs L xs (d) 240 23 ls st M x = Rs L xs (d) 240 25 ls (.int (nI 39) :: st) M x := Rs_next c240_23 rfl
theorem c240_25 : qx_code 240 25 = some (25, .iaload, 26, 0, 0, 0) := by decide +kernel
theorem s240_25 {L : Nat} {xs : Nat → Int32} {d x : Nat} {M : qxM} {st : List Value} {ls : qxL} {t : Nat} {j : Int32} (hk : qx_kd t = 0) (hj : qx_ib j (qx_ln t) = true) : Rs L xs (d) 240 25 ls (.int j :: .ref t :: st) M x = Rs L xs (d) 240 26 ls (.int (M.1 t j.toNatClampNeg) :: st) M x := by
  have h1 := qx_kd_row (k := 0) (by decide) hk
  exact Rs_unless (qx_ib_not hj) c240_25 (by unfold qx_act; dsimp only; rw [h1]; rfl)
theorem c240_26 : qx_code 240 26 = some (26, .ishl, 27, 0, 0, 0) := by decide +kernel
theorem s240_26 {L : Nat} {xs : Nat → Int32} {d x : Nat} {M : qxM} {st : List Value} {ls : qxL} {z y : Int32} : Rs L xs (d) 240 26 ls (.int y :: .int z :: st) M x = Rs L xs (d) 240 27 ls (.int (z <<< (y &&& 31)) :: st) M x := Rs_next c240_26 rfl
theorem c240_27 : qx_code 240 27 = some (27, .istore_n 1, 28, 0, 0, 0) := by decide +kernel
theorem s240_27i {L : Nat} {xs : Nat → Int32} {d x : Nat} {M : qxM} {st : List Value} {a1 : Option Value} {z : Int32} {y : Int32} : Rs L xs (d) 240 27 [some (.int y), a1] (.int z :: st) M x = Rs L xs (d) 240 28 [some (.int y), some (.int z)] st M x := Rs_next c240_27 rfl
theorem s240_27r {L : Nat} {xs : Nat → Int32} {d x : Nat} {M : qxM} {st : List Value} {a1 : Option Value} {z : Int32} {y : Nat} : Rs L xs (d) 240 27 [some (.ref y), a1] (.int z :: st) M x = Rs L xs (d) 240 28 [some (.ref y), some (.int z)] st M x := Rs_next c240_27 rfl
theorem s240_27n {L : Nat} {xs : Nat → Int32} {d x : Nat} {M : qxM} {st : List Value} {a1 : Option Value} {z : Int32} : Rs L xs (d) 240 27 [none, a1] (.int z :: st) M x = Rs L xs (d) 240 28 [none, some (.int z)] st M x := Rs_next c240_27 rfl
theorem c240_28 : qx_code 240 28 = some (28, .iload_n 1, 29, 0, 0, 0) := by decide +kernel
theorem s240_28 {L : Nat} {xs : Nat → Int32} {d x : Nat} {M : qxM} {st : List Value} {a0 : Option Value} {z : Int32} : Rs L xs (d) 240 28 [a0, some (.int z)] st M x = Rs L xs (d) 240 29 [a0, some (.int z)] (.int z :: st) M x := Rs_next c240_28 rfl
theorem c240_29 : qx_code 240 29 = some (29, .ifCond .ne 7, 32, 36, 0, 0) := by decide +kernel
theorem s240_29 {L : Nat} {xs : Nat → Int32} {d x : Nat} {M : qxM} {st : List Value} {ls : qxL} {z : Int32} : Rs L xs (d) 240 29 ls (.int z :: st) M x = if z = 0 then Rs L xs (d) 240 32 ls st M x else Rs L xs (d) 240 36 ls st M x := Rs_ite c240_29 rfl
theorem c240_32 : qx_code 240 32 = some (32, .iconst (-1), 33, 0, 0, 0) := by decide +kernel
theorem s240_32 {L : Nat} {xs : Nat → Int32} {d x : Nat} {M : qxM} {st : List Value} {ls : qxL} : Rs L xs (d) 240 32 ls st M x = Rs L xs (d) 240 33 ls (.int (-1) :: st) M x := Rs_next c240_32 rfl
theorem c240_33 : qx_code 240 33 = some (33, .goto 7, 36, 40, 0, 0) := by decide +kernel
theorem s240_33 {L : Nat} {xs : Nat → Int32} {d x : Nat} {M : qxM} {st : List Value} {ls : qxL} : Rs L xs (d) 240 33 ls st M x = Rs L xs (d) 240 40 ls st M x := Rs_next c240_33 rfl
theorem c240_36 : qx_code 240 36 = some (36, .iload_n 1, 37, 0, 0, 0) := by decide +kernel
theorem s240_36 {L : Nat} {xs : Nat → Int32} {d x : Nat} {M : qxM} {st : List Value} {a0 : Option Value} {z : Int32} : Rs L xs (d) 240 36 [a0, some (.int z)] st M x = Rs L xs (d) 240 37 [a0, some (.int z)] (.int z :: st) M x := Rs_next c240_36 rfl
theorem c240_37 : qx_code 240 37 = some (37, .invokestatic 235, 40, 210, 1, 1823) := by decide +kernel
theorem s240_37 {L : Nat} {xs : Nat → Int32} {d x : Nat} {M : qxM} {st : List Value} {ls : qxL} {z0 : Int32} (hs : st.length ≤ 4) : Rs L xs (d + 1) 240 37 ls (.int z0 :: st) M x = (Rs L xs d 210 0 [some (.int z0)] [] M 0).bind (qx_kn L xs (d + 1) 240 37 40 210 ls st x) := by
  have h1 : qx_act L xs (qx_rt 240) (37, .invokestatic 235, 40, 210, 1, 1823) ls (.int z0 :: st) M = if 1 ≤ (.int z0 :: st).length ∧ st.length ≤ 4 then some (.inr (.inr (.inr (210, [.int z0], st)))) else none := rfl
  rw [if_pos ⟨by simp [List.length_cons]; try omega, hs⟩] at h1
  exact Rs_call c240_37 h1 rfl
theorem c240_40 : qx_code 240 40 = some (40, .ireturn, 41, 0, 0, 0) := by decide +kernel
theorem s240_40 {L : Nat} {xs : Nat → Int32} {d x : Nat} {M : qxM} {ls : qxL} {z : Int32} : Rs L xs (d) 240 40 ls [.int z] M x = some (.inl (some (.int z)), M, x) := Rs_ret c240_40 rfl
theorem c241_0 : qx_code 241 0 = some (0, .aload_n 0, 1, 0, 0, 0) := by decide +kernel
theorem s241_0 {L : Nat} {xs : Nat → Int32} {d x : Nat} {M : qxM} {st : List Value} {a1 : Option Value} {z : Nat} : Rs L xs (d) 241 0 [some (.ref z), a1] st M x = Rs L xs (d) 241 1 [some (.ref z), a1] (.ref z :: st) M x := Rs_next c241_0 rfl
theorem c241_1 : qx_code 241 1 = some (1, .getfield 9, 4, 8, 1, 1546) := by decide +kernel
theorem s241_1 {L : Nat} {xs : Nat → Int32} {d x : Nat} {M : qxM} {st : List Value} {ls : qxL} {t : Nat} (hk : qx_kd t = 18) : Rs L xs (d) 241 1 ls (.ref t :: st) M x = Rs L xs (d) 241 4 ls (.ref (t + 1) :: st) M x := Rs_when (qx_kd_obj (k := 8) (by decide) hk) c241_1 rfl
theorem c241_4 : qx_code 241 4 = some (4, .bipush 40, 6, 0, 0, 0) := by decide +kernel
theorem s241_4 {L : Nat} {xs : Nat → Int32} {d x : Nat} {M : qxM} {st : List Value} {ls : qxL} : Rs L xs (d) 241 4 ls st M x = Rs L xs (d) 241 6 ls (.int (nI 40) :: st) M x := Rs_next c241_4 rfl
theorem c241_6 : qx_code 241 6 = some (6, .dup2, 7, 0, 0, 0) := by decide +kernel
theorem s241_6 {L : Nat} {xs : Nat → Int32} {d x : Nat} {M : qxM} {st : List Value} {ls : qxL} {z : Nat} {y : Int32} : Rs L xs (d) 241 6 ls (.int y :: .ref z :: st) M x = Rs L xs (d) 241 7 ls (.int y :: .ref z :: .int y :: .ref z :: st) M x := Rs_next c241_6 rfl
theorem c241_7 : qx_code 241 7 = some (7, .iaload, 8, 0, 0, 0) := by decide +kernel
theorem s241_7 {L : Nat} {xs : Nat → Int32} {d x : Nat} {M : qxM} {st : List Value} {ls : qxL} {t : Nat} {j : Int32} (hk : qx_kd t = 0) (hj : qx_ib j (qx_ln t) = true) : Rs L xs (d) 241 7 ls (.int j :: .ref t :: st) M x = Rs L xs (d) 241 8 ls (.int (M.1 t j.toNatClampNeg) :: st) M x := by
  have h1 := qx_kd_row (k := 0) (by decide) hk
  exact Rs_unless (qx_ib_not hj) c241_7 (by unfold qx_act; dsimp only; rw [h1]; rfl)
theorem c241_8 : qx_code 241 8 = some (8, .iconst 1, 9, 0, 0, 0) := by decide +kernel
theorem s241_8 {L : Nat} {xs : Nat → Int32} {d x : Nat} {M : qxM} {st : List Value} {ls : qxL} : Rs L xs (d) 241 8 ls st M x = Rs L xs (d) 241 9 ls (.int (nI 1) :: st) M x := Rs_next c241_8 rfl
theorem c241_9 : qx_code 241 9 = some (9, .isub, 10, 0, 0, 0) := by decide +kernel
theorem s241_9 {L : Nat} {xs : Nat → Int32} {d x : Nat} {M : qxM} {st : List Value} {ls : qxL} {z y : Int32} : Rs L xs (d) 241 9 ls (.int y :: .int z :: st) M x = Rs L xs (d) 241 10 ls (.int (z - y) :: st) M x := Rs_next c241_9 rfl
theorem c241_10 : qx_code 241 10 = some (10, .iastore, 11, 0, 0, 0) := by decide +kernel
theorem s241_10 {L : Nat} {xs : Nat → Int32} {d x : Nat} {M : qxM} {st : List Value} {ls : qxL} {t : Nat} {j : Int32} {z : Int32} (hk : qx_kd t = 0) (hj : qx_ib j (qx_ln t) = true) : Rs L xs (d) 241 10 ls (.int z :: .int j :: .ref t :: st) M x = Rs L xs (d) 241 11 ls st (qx_up M t j.toNatClampNeg z) x := by
  have h1 := qx_kd_row (k := 0) (by decide) hk
  exact Rs_unless (qx_ib_not hj) c241_10 (by unfold qx_act; dsimp only; rw [h1]; rfl)
theorem c241_11 : qx_code 241 11 = some (11, .iconst 0, 12, 0, 0, 0) := by decide +kernel
theorem s241_11 {L : Nat} {xs : Nat → Int32} {d x : Nat} {M : qxM} {st : List Value} {ls : qxL} : Rs L xs (d) 241 11 ls st M x = Rs L xs (d) 241 12 ls (.int (nI 0) :: st) M x := Rs_next c241_11 rfl
theorem c241_12 : qx_code 241 12 = some (12, .istore_n 1, 13, 0, 0, 0) := by decide +kernel
theorem s241_12i {L : Nat} {xs : Nat → Int32} {d x : Nat} {M : qxM} {st : List Value} {a1 : Option Value} {z : Int32} {y : Int32} : Rs L xs (d) 241 12 [some (.int y), a1] (.int z :: st) M x = Rs L xs (d) 241 13 [some (.int y), some (.int z)] st M x := Rs_next c241_12 rfl
theorem s241_12r {L : Nat} {xs : Nat → Int32} {d x : Nat} {M : qxM} {st : List Value} {a1 : Option Value} {z : Int32} {y : Nat} : Rs L xs (d) 241 12 [some (.ref y), a1] (.int z :: st) M x = Rs L xs (d) 241 13 [some (.ref y), some (.int z)] st M x := Rs_next c241_12 rfl
theorem s241_12n {L : Nat} {xs : Nat → Int32} {d x : Nat} {M : qxM} {st : List Value} {a1 : Option Value} {z : Int32} : Rs L xs (d) 241 12 [none, a1] (.int z :: st) M x = Rs L xs (d) 241 13 [none, some (.int z)] st M x := Rs_next c241_12 rfl
theorem c241_13 : qx_code 241 13 = some (13, .iload_n 1, 14, 0, 0, 0) := by decide +kernel
theorem s241_13 {L : Nat} {xs : Nat → Int32} {d x : Nat} {M : qxM} {st : List Value} {a0 : Option Value} {z : Int32} : Rs L xs (d) 241 13 [a0, some (.int z)] st M x = Rs L xs (d) 241 14 [a0, some (.int z)] (.int z :: st) M x := Rs_next c241_13 rfl
theorem c241_14 : qx_code 241 14 = some (14, .aload_n 0, 15, 0, 0, 0) := by decide +kernel
theorem s241_14 {L : Nat} {xs : Nat → Int32} {d x : Nat} {M : qxM} {st : List Value} {a1 : Option Value} {z : Nat} : Rs L xs (d) 241 14 [some (.ref z), a1] st M x = Rs L xs (d) 241 15 [some (.ref z), a1] (.ref z :: st) M x := Rs_next c241_14 rfl
theorem c241_15 : qx_code 241 15 = some (15, .getfield 9, 18, 8, 1, 1546) := by decide +kernel
theorem s241_15 {L : Nat} {xs : Nat → Int32} {d x : Nat} {M : qxM} {st : List Value} {ls : qxL} {t : Nat} (hk : qx_kd t = 18) : Rs L xs (d) 241 15 ls (.ref t :: st) M x = Rs L xs (d) 241 18 ls (.ref (t + 1) :: st) M x := Rs_when (qx_kd_obj (k := 8) (by decide) hk) c241_15 rfl
theorem c241_18 : qx_code 241 18 = some (18, .bipush 40, 20, 0, 0, 0) := by decide +kernel
theorem s241_18 {L : Nat} {xs : Nat → Int32} {d x : Nat} {M : qxM} {st : List Value} {ls : qxL} : Rs L xs (d) 241 18 ls st M x = Rs L xs (d) 241 20 ls (.int (nI 40) :: st) M x := Rs_next c241_18 rfl
theorem c241_20 : qx_code 241 20 = some (20, .iaload, 21, 0, 0, 0) := by decide +kernel
theorem s241_20 {L : Nat} {xs : Nat → Int32} {d x : Nat} {M : qxM} {st : List Value} {ls : qxL} {t : Nat} {j : Int32} (hk : qx_kd t = 0) (hj : qx_ib j (qx_ln t) = true) : Rs L xs (d) 241 20 ls (.int j :: .ref t :: st) M x = Rs L xs (d) 241 21 ls (.int (M.1 t j.toNatClampNeg) :: st) M x := by
  have h1 := qx_kd_row (k := 0) (by decide) hk
  exact Rs_unless (qx_ib_not hj) c241_20 (by unfold qx_act; dsimp only; rw [h1]; rfl)
theorem c241_21 : qx_code 241 21 = some (21, .if_icmp .ge 29, 24, 50, 0, 0) := by decide +kernel
theorem s241_21 {L : Nat} {xs : Nat → Int32} {d x : Nat} {M : qxM} {st : List Value} {ls : qxL} {z y : Int32} : Rs L xs (d) 241 21 ls (.int y :: .int z :: st) M x = if y ≤ z then Rs L xs (d) 241 50 ls st M x else Rs L xs (d) 241 24 ls st M x := Rs_ite c241_21 rfl
theorem c241_24 : qx_code 241 24 = some (24, .aload_n 0, 25, 0, 0, 0) := by decide +kernel
theorem s241_24 {L : Nat} {xs : Nat → Int32} {d x : Nat} {M : qxM} {st : List Value} {a1 : Option Value} {z : Nat} : Rs L xs (d) 241 24 [some (.ref z), a1] st M x = Rs L xs (d) 241 25 [some (.ref z), a1] (.ref z :: st) M x := Rs_next c241_24 rfl
theorem c241_25 : qx_code 241 25 = some (25, .getfield 9, 28, 8, 1, 1546) := by decide +kernel
theorem s241_25 {L : Nat} {xs : Nat → Int32} {d x : Nat} {M : qxM} {st : List Value} {ls : qxL} {t : Nat} (hk : qx_kd t = 18) : Rs L xs (d) 241 25 ls (.ref t :: st) M x = Rs L xs (d) 241 28 ls (.ref (t + 1) :: st) M x := Rs_when (qx_kd_obj (k := 8) (by decide) hk) c241_25 rfl
theorem c241_28 : qx_code 241 28 = some (28, .bipush 41, 30, 0, 0, 0) := by decide +kernel
theorem s241_28 {L : Nat} {xs : Nat → Int32} {d x : Nat} {M : qxM} {st : List Value} {ls : qxL} : Rs L xs (d) 241 28 ls st M x = Rs L xs (d) 241 30 ls (.int (nI 41) :: st) M x := Rs_next c241_28 rfl
theorem c241_30 : qx_code 241 30 = some (30, .iload_n 1, 31, 0, 0, 0) := by decide +kernel
theorem s241_30 {L : Nat} {xs : Nat → Int32} {d x : Nat} {M : qxM} {st : List Value} {a0 : Option Value} {z : Int32} : Rs L xs (d) 241 30 [a0, some (.int z)] st M x = Rs L xs (d) 241 31 [a0, some (.int z)] (.int z :: st) M x := Rs_next c241_30 rfl
theorem c241_31 : qx_code 241 31 = some (31, .iadd, 32, 0, 0, 0) := by decide +kernel
theorem s241_31 {L : Nat} {xs : Nat → Int32} {d x : Nat} {M : qxM} {st : List Value} {ls : qxL} {z y : Int32} : Rs L xs (d) 241 31 ls (.int y :: .int z :: st) M x = Rs L xs (d) 241 32 ls (.int (z + y) :: st) M x := Rs_next c241_31 rfl
theorem c241_32 : qx_code 241 32 = some (32, .aload_n 0, 33, 0, 0, 0) := by decide +kernel
theorem s241_32 {L : Nat} {xs : Nat → Int32} {d x : Nat} {M : qxM} {st : List Value} {a1 : Option Value} {z : Nat} : Rs L xs (d) 241 32 [some (.ref z), a1] st M x = Rs L xs (d) 241 33 [some (.ref z), a1] (.ref z :: st) M x := Rs_next c241_32 rfl
theorem c241_33 : qx_code 241 33 = some (33, .getfield 9, 36, 8, 1, 1546) := by decide +kernel
theorem s241_33 {L : Nat} {xs : Nat → Int32} {d x : Nat} {M : qxM} {st : List Value} {ls : qxL} {t : Nat} (hk : qx_kd t = 18) : Rs L xs (d) 241 33 ls (.ref t :: st) M x = Rs L xs (d) 241 36 ls (.ref (t + 1) :: st) M x := Rs_when (qx_kd_obj (k := 8) (by decide) hk) c241_33 rfl
theorem c241_36 : qx_code 241 36 = some (36, .bipush 41, 38, 0, 0, 0) := by decide +kernel
theorem s241_36 {L : Nat} {xs : Nat → Int32} {d x : Nat} {M : qxM} {st : List Value} {ls : qxL} : Rs L xs (d) 241 36 ls st M x = Rs L xs (d) 241 38 ls (.int (nI 41) :: st) M x := Rs_next c241_36 rfl
theorem c241_38 : qx_code 241 38 = some (38, .iload_n 1, 39, 0, 0, 0) := by decide +kernel
theorem s241_38 {L : Nat} {xs : Nat → Int32} {d x : Nat} {M : qxM} {st : List Value} {a0 : Option Value} {z : Int32} : Rs L xs (d) 241 38 [a0, some (.int z)] st M x = Rs L xs (d) 241 39 [a0, some (.int z)] (.int z :: st) M x := Rs_next c241_38 rfl
theorem c241_39 : qx_code 241 39 = some (39, .iadd, 40, 0, 0, 0) := by decide +kernel
theorem s241_39 {L : Nat} {xs : Nat → Int32} {d x : Nat} {M : qxM} {st : List Value} {ls : qxL} {z y : Int32} : Rs L xs (d) 241 39 ls (.int y :: .int z :: st) M x = Rs L xs (d) 241 40 ls (.int (z + y) :: st) M x := Rs_next c241_39 rfl
theorem c241_40 : qx_code 241 40 = some (40, .iconst 1, 41, 0, 0, 0) := by decide +kernel
theorem s241_40 {L : Nat} {xs : Nat → Int32} {d x : Nat} {M : qxM} {st : List Value} {ls : qxL} : Rs L xs (d) 241 40 ls st M x = Rs L xs (d) 241 41 ls (.int (nI 1) :: st) M x := Rs_next c241_40 rfl
theorem c241_41 : qx_code 241 41 = some (41, .iadd, 42, 0, 0, 0) := by decide +kernel
theorem s241_41 {L : Nat} {xs : Nat → Int32} {d x : Nat} {M : qxM} {st : List Value} {ls : qxL} {z y : Int32} : Rs L xs (d) 241 41 ls (.int y :: .int z :: st) M x = Rs L xs (d) 241 42 ls (.int (z + y) :: st) M x := Rs_next c241_41 rfl
theorem c241_42 : qx_code 241 42 = some (42, .iaload, 43, 0, 0, 0) := by decide +kernel
theorem s241_42 {L : Nat} {xs : Nat → Int32} {d x : Nat} {M : qxM} {st : List Value} {ls : qxL} {t : Nat} {j : Int32} (hk : qx_kd t = 0) (hj : qx_ib j (qx_ln t) = true) : Rs L xs (d) 241 42 ls (.int j :: .ref t :: st) M x = Rs L xs (d) 241 43 ls (.int (M.1 t j.toNatClampNeg) :: st) M x := by
  have h1 := qx_kd_row (k := 0) (by decide) hk
  exact Rs_unless (qx_ib_not hj) c241_42 (by unfold qx_act; dsimp only; rw [h1]; rfl)
theorem c241_43 : qx_code 241 43 = some (43, .iastore, 44, 0, 0, 0) := by decide +kernel
theorem s241_43 {L : Nat} {xs : Nat → Int32} {d x : Nat} {M : qxM} {st : List Value} {ls : qxL} {t : Nat} {j : Int32} {z : Int32} (hk : qx_kd t = 0) (hj : qx_ib j (qx_ln t) = true) : Rs L xs (d) 241 43 ls (.int z :: .int j :: .ref t :: st) M x = Rs L xs (d) 241 44 ls st (qx_up M t j.toNatClampNeg z) x := by
  have h1 := qx_kd_row (k := 0) (by decide) hk
  exact Rs_unless (qx_ib_not hj) c241_43 (by unfold qx_act; dsimp only; rw [h1]; rfl)
theorem c241_44 : qx_code 241 44 = some (44, .iinc 1 1, 47, 0, 0, 0) := by decide +kernel
theorem s241_44i {L : Nat} {xs : Nat → Int32} {d x : Nat} {M : qxM} {st : List Value} {z : Int32} {y : Int32} : Rs L xs (d) 241 44 [some (.int y), some (.int z)] st M x = Rs L xs (d) 241 47 [some (.int y), some (.int (z + (nI 1)))] st M x := Rs_next c241_44 rfl
theorem s241_44r {L : Nat} {xs : Nat → Int32} {d x : Nat} {M : qxM} {st : List Value} {z : Int32} {y : Nat} : Rs L xs (d) 241 44 [some (.ref y), some (.int z)] st M x = Rs L xs (d) 241 47 [some (.ref y), some (.int (z + (nI 1)))] st M x := Rs_next c241_44 rfl
theorem s241_44n {L : Nat} {xs : Nat → Int32} {d x : Nat} {M : qxM} {st : List Value} {z : Int32} : Rs L xs (d) 241 44 [none, some (.int z)] st M x = Rs L xs (d) 241 47 [none, some (.int (z + (nI 1)))] st M x := Rs_next c241_44 rfl
theorem c241_47 : qx_code 241 47 = some (47, .goto (-34), 50, 13, 0, 0) := by decide +kernel
theorem s241_47 {L : Nat} {xs : Nat → Int32} {d x : Nat} {M : qxM} {st : List Value} {ls : qxL} : Rs L xs (d) 241 47 ls st M x = Rs L xs (d) 241 13 ls st M x := Rs_next c241_47 rfl
theorem c241_50 : qx_code 241 50 = some (50, .aload_n 0, 51, 0, 0, 0) := by decide +kernel
theorem s241_50 {L : Nat} {xs : Nat → Int32} {d x : Nat} {M : qxM} {st : List Value} {a1 : Option Value} {z : Nat} : Rs L xs (d) 241 50 [some (.ref z), a1] st M x = Rs L xs (d) 241 51 [some (.ref z), a1] (.ref z :: st) M x := Rs_next c241_50 rfl
theorem c241_51 : qx_code 241 51 = some (51, .getfield 9, 54, 8, 1, 1546) := by decide +kernel
theorem s241_51 {L : Nat} {xs : Nat → Int32} {d x : Nat} {M : qxM} {st : List Value} {ls : qxL} {t : Nat} (hk : qx_kd t = 18) : Rs L xs (d) 241 51 ls (.ref t :: st) M x = Rs L xs (d) 241 54 ls (.ref (t + 1) :: st) M x := Rs_when (qx_kd_obj (k := 8) (by decide) hk) c241_51 rfl
theorem c241_54 : qx_code 241 54 = some (54, .bipush 39, 56, 0, 0, 0) := by decide +kernel
theorem s241_54 {L : Nat} {xs : Nat → Int32} {d x : Nat} {M : qxM} {st : List Value} {ls : qxL} : Rs L xs (d) 241 54 ls st M x = Rs L xs (d) 241 56 ls (.int (nI 39) :: st) M x := Rs_next c241_54 rfl
theorem c241_56 : qx_code 241 56 = some (56, .iconst 0, 57, 0, 0, 0) := by decide +kernel
theorem s241_56 {L : Nat} {xs : Nat → Int32} {d x : Nat} {M : qxM} {st : List Value} {ls : qxL} : Rs L xs (d) 241 56 ls st M x = Rs L xs (d) 241 57 ls (.int (nI 0) :: st) M x := Rs_next c241_56 rfl
theorem c241_57 : qx_code 241 57 = some (57, .iastore, 58, 0, 0, 0) := by decide +kernel
theorem s241_57 {L : Nat} {xs : Nat → Int32} {d x : Nat} {M : qxM} {st : List Value} {ls : qxL} {t : Nat} {j : Int32} {z : Int32} (hk : qx_kd t = 0) (hj : qx_ib j (qx_ln t) = true) : Rs L xs (d) 241 57 ls (.int z :: .int j :: .ref t :: st) M x = Rs L xs (d) 241 58 ls st (qx_up M t j.toNatClampNeg z) x := by
  have h1 := qx_kd_row (k := 0) (by decide) hk
  exact Rs_unless (qx_ib_not hj) c241_57 (by unfold qx_act; dsimp only; rw [h1]; rfl)
theorem c241_58 : qx_code 241 58 = some (58, .aload_n 0, 59, 0, 0, 0) := by decide +kernel
theorem s241_58 {L : Nat} {xs : Nat → Int32} {d x : Nat} {M : qxM} {st : List Value} {a1 : Option Value} {z : Nat} : Rs L xs (d) 241 58 [some (.ref z), a1] st M x = Rs L xs (d) 241 59 [some (.ref z), a1] (.ref z :: st) M x := Rs_next c241_58 rfl
theorem c241_59 : qx_code 241 59 = some (59, .getfield 9, 62, 8, 1, 1546) := by decide +kernel
theorem s241_59 {L : Nat} {xs : Nat → Int32} {d x : Nat} {M : qxM} {st : List Value} {ls : qxL} {t : Nat} (hk : qx_kd t = 18) : Rs L xs (d) 241 59 ls (.ref t :: st) M x = Rs L xs (d) 241 62 ls (.ref (t + 1) :: st) M x := Rs_when (qx_kd_obj (k := 8) (by decide) hk) c241_59 rfl
theorem c241_62 : qx_code 241 62 = some (62, .bipush 40, 64, 0, 0, 0) := by decide +kernel
theorem s241_62 {L : Nat} {xs : Nat → Int32} {d x : Nat} {M : qxM} {st : List Value} {ls : qxL} : Rs L xs (d) 241 62 ls st M x = Rs L xs (d) 241 64 ls (.int (nI 40) :: st) M x := Rs_next c241_62 rfl
theorem c241_64 : qx_code 241 64 = some (64, .iaload, 65, 0, 0, 0) := by decide +kernel
theorem s241_64 {L : Nat} {xs : Nat → Int32} {d x : Nat} {M : qxM} {st : List Value} {ls : qxL} {t : Nat} {j : Int32} (hk : qx_kd t = 0) (hj : qx_ib j (qx_ln t) = true) : Rs L xs (d) 241 64 ls (.int j :: .ref t :: st) M x = Rs L xs (d) 241 65 ls (.int (M.1 t j.toNatClampNeg) :: st) M x := by
  have h1 := qx_kd_row (k := 0) (by decide) hk
  exact Rs_unless (qx_ib_not hj) c241_64 (by unfold qx_act; dsimp only; rw [h1]; rfl)
theorem c241_65 : qx_code 241 65 = some (65, .ifCond .le 5, 68, 70, 0, 0) := by decide +kernel
theorem s241_65 {L : Nat} {xs : Nat → Int32} {d x : Nat} {M : qxM} {st : List Value} {ls : qxL} {z : Int32} : Rs L xs (d) 241 65 ls (.int z :: st) M x = if z ≤ 0 then Rs L xs (d) 241 70 ls st M x else Rs L xs (d) 241 68 ls st M x := Rs_ite c241_65 rfl
theorem c241_68 : qx_code 241 68 = some (68, .iconst 5, 69, 0, 0, 0) := by decide +kernel
theorem s241_68 {L : Nat} {xs : Nat → Int32} {d x : Nat} {M : qxM} {st : List Value} {ls : qxL} : Rs L xs (d) 241 68 ls st M x = Rs L xs (d) 241 69 ls (.int (nI 5) :: st) M x := Rs_next c241_68 rfl
theorem c241_69 : qx_code 241 69 = some (69, .ireturn, 70, 0, 0, 0) := by decide +kernel
theorem s241_69 {L : Nat} {xs : Nat → Int32} {d x : Nat} {M : qxM} {ls : qxL} {z : Int32} : Rs L xs (d) 241 69 ls [.int z] M x = some (.inl (some (.int z)), M, x) := Rs_ret c241_69 rfl
theorem c241_70 : qx_code 241 70 = some (70, .aload_n 0, 71, 0, 0, 0) := by decide +kernel
theorem s241_70 {L : Nat} {xs : Nat → Int32} {d x : Nat} {M : qxM} {st : List Value} {a1 : Option Value} {z : Nat} : Rs L xs (d) 241 70 [some (.ref z), a1] st M x = Rs L xs (d) 241 71 [some (.ref z), a1] (.ref z :: st) M x := Rs_next c241_70 rfl
theorem c241_71 : qx_code 241 71 = some (71, .getfield 9, 74, 8, 1, 1546) := by decide +kernel
theorem s241_71 {L : Nat} {xs : Nat → Int32} {d x : Nat} {M : qxM} {st : List Value} {ls : qxL} {t : Nat} (hk : qx_kd t = 18) : Rs L xs (d) 241 71 ls (.ref t :: st) M x = Rs L xs (d) 241 74 ls (.ref (t + 1) :: st) M x := Rs_when (qx_kd_obj (k := 8) (by decide) hk) c241_71 rfl
theorem c241_74 : qx_code 241 74 = some (74, .bipush 35, 76, 0, 0, 0) := by decide +kernel
theorem s241_74 {L : Nat} {xs : Nat → Int32} {d x : Nat} {M : qxM} {st : List Value} {ls : qxL} : Rs L xs (d) 241 74 ls st M x = Rs L xs (d) 241 76 ls (.int (nI 35) :: st) M x := Rs_next c241_74 rfl
theorem c241_76 : qx_code 241 76 = some (76, .iconst 3, 77, 0, 0, 0) := by decide +kernel
theorem s241_76 {L : Nat} {xs : Nat → Int32} {d x : Nat} {M : qxM} {st : List Value} {ls : qxL} : Rs L xs (d) 241 76 ls st M x = Rs L xs (d) 241 77 ls (.int (nI 3) :: st) M x := Rs_next c241_76 rfl
theorem c241_77 : qx_code 241 77 = some (77, .iastore, 78, 0, 0, 0) := by decide +kernel
theorem s241_77 {L : Nat} {xs : Nat → Int32} {d x : Nat} {M : qxM} {st : List Value} {ls : qxL} {t : Nat} {j : Int32} {z : Int32} (hk : qx_kd t = 0) (hj : qx_ib j (qx_ln t) = true) : Rs L xs (d) 241 77 ls (.int z :: .int j :: .ref t :: st) M x = Rs L xs (d) 241 78 ls st (qx_up M t j.toNatClampNeg z) x := by
  have h1 := qx_kd_row (k := 0) (by decide) hk
  exact Rs_unless (qx_ib_not hj) c241_77 (by unfold qx_act; dsimp only; rw [h1]; rfl)
theorem c241_78 : qx_code 241 78 = some (78, .aload_n 0, 79, 0, 0, 0) := by decide +kernel
theorem s241_78 {L : Nat} {xs : Nat → Int32} {d x : Nat} {M : qxM} {st : List Value} {a1 : Option Value} {z : Nat} : Rs L xs (d) 241 78 [some (.ref z), a1] st M x = Rs L xs (d) 241 79 [some (.ref z), a1] (.ref z :: st) M x := Rs_next c241_78 rfl
theorem c241_79 : qx_code 241 79 = some (79, .getfield 9, 82, 8, 1, 1546) := by decide +kernel
theorem s241_79 {L : Nat} {xs : Nat → Int32} {d x : Nat} {M : qxM} {st : List Value} {ls : qxL} {t : Nat} (hk : qx_kd t = 18) : Rs L xs (d) 241 79 ls (.ref t :: st) M x = Rs L xs (d) 241 82 ls (.ref (t + 1) :: st) M x := Rs_when (qx_kd_obj (k := 8) (by decide) hk) c241_79 rfl
theorem c241_82 : qx_code 241 82 = some (82, .iconst 4, 83, 0, 0, 0) := by decide +kernel
theorem s241_82 {L : Nat} {xs : Nat → Int32} {d x : Nat} {M : qxM} {st : List Value} {ls : qxL} : Rs L xs (d) 241 82 ls st M x = Rs L xs (d) 241 83 ls (.int (nI 4) :: st) M x := Rs_next c241_82 rfl
theorem c241_83 : qx_code 241 83 = some (83, .dup2, 84, 0, 0, 0) := by decide +kernel
theorem s241_83 {L : Nat} {xs : Nat → Int32} {d x : Nat} {M : qxM} {st : List Value} {ls : qxL} {z : Nat} {y : Int32} : Rs L xs (d) 241 83 ls (.int y :: .ref z :: st) M x = Rs L xs (d) 241 84 ls (.int y :: .ref z :: .int y :: .ref z :: st) M x := Rs_next c241_83 rfl
theorem c241_84 : qx_code 241 84 = some (84, .iaload, 85, 0, 0, 0) := by decide +kernel
theorem s241_84 {L : Nat} {xs : Nat → Int32} {d x : Nat} {M : qxM} {st : List Value} {ls : qxL} {t : Nat} {j : Int32} (hk : qx_kd t = 0) (hj : qx_ib j (qx_ln t) = true) : Rs L xs (d) 241 84 ls (.int j :: .ref t :: st) M x = Rs L xs (d) 241 85 ls (.int (M.1 t j.toNatClampNeg) :: st) M x := by
  have h1 := qx_kd_row (k := 0) (by decide) hk
  exact Rs_unless (qx_ib_not hj) c241_84 (by unfold qx_act; dsimp only; rw [h1]; rfl)
theorem c241_85 : qx_code 241 85 = some (85, .iconst 1, 86, 0, 0, 0) := by decide +kernel
theorem s241_85 {L : Nat} {xs : Nat → Int32} {d x : Nat} {M : qxM} {st : List Value} {ls : qxL} : Rs L xs (d) 241 85 ls st M x = Rs L xs (d) 241 86 ls (.int (nI 1) :: st) M x := Rs_next c241_85 rfl
theorem c241_86 : qx_code 241 86 = some (86, .iadd, 87, 0, 0, 0) := by decide +kernel
theorem s241_86 {L : Nat} {xs : Nat → Int32} {d x : Nat} {M : qxM} {st : List Value} {ls : qxL} {z y : Int32} : Rs L xs (d) 241 86 ls (.int y :: .int z :: st) M x = Rs L xs (d) 241 87 ls (.int (z + y) :: st) M x := Rs_next c241_86 rfl
theorem c241_87 : qx_code 241 87 = some (87, .iastore, 88, 0, 0, 0) := by decide +kernel
theorem s241_87 {L : Nat} {xs : Nat → Int32} {d x : Nat} {M : qxM} {st : List Value} {ls : qxL} {t : Nat} {j : Int32} {z : Int32} (hk : qx_kd t = 0) (hj : qx_ib j (qx_ln t) = true) : Rs L xs (d) 241 87 ls (.int z :: .int j :: .ref t :: st) M x = Rs L xs (d) 241 88 ls st (qx_up M t j.toNatClampNeg z) x := by
  have h1 := qx_kd_row (k := 0) (by decide) hk
  exact Rs_unless (qx_ib_not hj) c241_87 (by unfold qx_act; dsimp only; rw [h1]; rfl)
theorem c241_88 : qx_code 241 88 = some (88, .iconst 4, 89, 0, 0, 0) := by decide +kernel
theorem s241_88 {L : Nat} {xs : Nat → Int32} {d x : Nat} {M : qxM} {st : List Value} {ls : qxL} : Rs L xs (d) 241 88 ls st M x = Rs L xs (d) 241 89 ls (.int (nI 4) :: st) M x := Rs_next c241_88 rfl
theorem c241_89 : qx_code 241 89 = some (89, .ireturn, 90, 0, 0, 0) := by decide +kernel
theorem s241_89 {L : Nat} {xs : Nat → Int32} {d x : Nat} {M : qxM} {ls : qxL} {z : Int32} : Rs L xs (d) 241 89 ls [.int z] M x = some (.inl (some (.int z)), M, x) := Rs_ret c241_89 rfl
theorem c242_0 : qx_code 242 0 = some (0, .aload_n 0, 1, 0, 0, 0) := by decide +kernel
theorem s242_0 {L : Nat} {xs : Nat → Int32} {d x : Nat} {M : qxM} {st : List Value} {a1 a2 a3 : Option Value} {z : Nat} : Rs L xs (d) 242 0 [some (.ref z), a1, a2, a3] st M x = Rs L xs (d) 242 1 [some (.ref z), a1, a2, a3] (.ref z :: st) M x := Rs_next c242_0 rfl
theorem c242_1 : qx_code 242 1 = some (1, .iload_n 1, 2, 0, 0, 0) := by decide +kernel
theorem s242_1 {L : Nat} {xs : Nat → Int32} {d x : Nat} {M : qxM} {st : List Value} {a0 a2 a3 : Option Value} {z : Int32} : Rs L xs (d) 242 1 [a0, some (.int z), a2, a3] st M x = Rs L xs (d) 242 2 [a0, some (.int z), a2, a3] (.int z :: st) M x := Rs_next c242_1 rfl
theorem c242_2 : qx_code 242 2 = some (2, .iload_n 2, 3, 0, 0, 0) := by decide +kernel
theorem s242_2 {L : Nat} {xs : Nat → Int32} {d x : Nat} {M : qxM} {st : List Value} {a0 a1 a3 : Option Value} {z : Int32} : Rs L xs (d) 242 2 [a0, a1, some (.int z), a3] st M x = Rs L xs (d) 242 3 [a0, a1, some (.int z), a3] (.int z :: st) M x := Rs_next c242_2 rfl
theorem c242_3 : qx_code 242 3 = some (3, .invokevirtual 139, 6, 214, 3, 1753) := by decide +kernel
theorem s242_3 {L : Nat} {xs : Nat → Int32} {d x : Nat} {M : qxM} {st : List Value} {ls : qxL} {t : Nat} {z0 : Int32} {z1 : Int32} (hk : qx_kd t = 18) (hs : st.length ≤ 4) : Rs L xs (d + 1) 242 3 ls (.int z1 :: .int z0 :: .ref t :: st) M x = (Rs L xs d 214 0 [some (.ref t), some (.int z0), some (.int z1)] [] M 0).bind (qx_kn L xs (d + 1) 242 3 6 214 ls st x) := by
  have h1 : qx_act L xs (qx_rt 242) (3, .invokevirtual 139, 6, 214, 3, 1753) ls (.int z1 :: .int z0 :: .ref t :: st) M = if 3 ≤ (.int z1 :: .int z0 :: .ref t :: st).length ∧ st.length ≤ 4 then some (.inr (.inr (.inr (214, [.ref t, .int z0, .int z1], st)))) else none := rfl
  rw [if_pos ⟨by simp [List.length_cons]; try omega, hs⟩] at h1
  have h2 := qx_kd_obj (k := 8) (by decide) hk
  exact Rs_call c242_3 h1 (by rw [show qx_args 214 [.ref t, .int z0, .int z1] = decide (qx_sh t = some (.inl 8)) from rfl]; exact decide_eq_true h2)
theorem c242_6 : qx_code 242 6 = some (6, .iconst 1, 7, 0, 0, 0) := by decide +kernel
theorem s242_6 {L : Nat} {xs : Nat → Int32} {d x : Nat} {M : qxM} {st : List Value} {ls : qxL} : Rs L xs (d) 242 6 ls st M x = Rs L xs (d) 242 7 ls (.int (nI 1) :: st) M x := Rs_next c242_6 rfl
theorem c242_7 : qx_code 242 7 = some (7, .istore_n 3, 8, 0, 0, 0) := by decide +kernel
theorem s242_7i {L : Nat} {xs : Nat → Int32} {d x : Nat} {M : qxM} {st : List Value} {a0 a1 a3 : Option Value} {z : Int32} {y : Int32} : Rs L xs (d) 242 7 [a0, a1, some (.int y), a3] (.int z :: st) M x = Rs L xs (d) 242 8 [a0, a1, some (.int y), some (.int z)] st M x := Rs_next c242_7 rfl
theorem s242_7r {L : Nat} {xs : Nat → Int32} {d x : Nat} {M : qxM} {st : List Value} {a0 a1 a3 : Option Value} {z : Int32} {y : Nat} : Rs L xs (d) 242 7 [a0, a1, some (.ref y), a3] (.int z :: st) M x = Rs L xs (d) 242 8 [a0, a1, some (.ref y), some (.int z)] st M x := Rs_next c242_7 rfl
theorem s242_7n {L : Nat} {xs : Nat → Int32} {d x : Nat} {M : qxM} {st : List Value} {a0 a1 a3 : Option Value} {z : Int32} : Rs L xs (d) 242 7 [a0, a1, none, a3] (.int z :: st) M x = Rs L xs (d) 242 8 [a0, a1, none, some (.int z)] st M x := Rs_next c242_7 rfl
theorem c242_8 : qx_code 242 8 = some (8, .iload_n 3, 9, 0, 0, 0) := by decide +kernel
theorem s242_8 {L : Nat} {xs : Nat → Int32} {d x : Nat} {M : qxM} {st : List Value} {a0 a1 a2 : Option Value} {z : Int32} : Rs L xs (d) 242 8 [a0, a1, a2, some (.int z)] st M x = Rs L xs (d) 242 9 [a0, a1, a2, some (.int z)] (.int z :: st) M x := Rs_next c242_8 rfl
theorem c242_9 : qx_code 242 9 = some (9, .aload_n 0, 10, 0, 0, 0) := by decide +kernel
theorem s242_9 {L : Nat} {xs : Nat → Int32} {d x : Nat} {M : qxM} {st : List Value} {a1 a2 a3 : Option Value} {z : Nat} : Rs L xs (d) 242 9 [some (.ref z), a1, a2, a3] st M x = Rs L xs (d) 242 10 [some (.ref z), a1, a2, a3] (.ref z :: st) M x := Rs_next c242_9 rfl
theorem c242_10 : qx_code 242 10 = some (10, .getfield 9, 13, 8, 1, 1546) := by decide +kernel
theorem s242_10 {L : Nat} {xs : Nat → Int32} {d x : Nat} {M : qxM} {st : List Value} {ls : qxL} {t : Nat} (hk : qx_kd t = 18) : Rs L xs (d) 242 10 ls (.ref t :: st) M x = Rs L xs (d) 242 13 ls (.ref (t + 1) :: st) M x := Rs_when (qx_kd_obj (k := 8) (by decide) hk) c242_10 rfl
theorem c242_13 : qx_code 242 13 = some (13, .bipush 125, 15, 0, 0, 0) := by decide +kernel
theorem s242_13 {L : Nat} {xs : Nat → Int32} {d x : Nat} {M : qxM} {st : List Value} {ls : qxL} : Rs L xs (d) 242 13 ls st M x = Rs L xs (d) 242 15 ls (.int (nI 125) :: st) M x := Rs_next c242_13 rfl
theorem c242_15 : qx_code 242 15 = some (15, .iload_n 1, 16, 0, 0, 0) := by decide +kernel
theorem s242_15 {L : Nat} {xs : Nat → Int32} {d x : Nat} {M : qxM} {st : List Value} {a0 a2 a3 : Option Value} {z : Int32} : Rs L xs (d) 242 15 [a0, some (.int z), a2, a3] st M x = Rs L xs (d) 242 16 [a0, some (.int z), a2, a3] (.int z :: st) M x := Rs_next c242_15 rfl
theorem c242_16 : qx_code 242 16 = some (16, .iadd, 17, 0, 0, 0) := by decide +kernel
theorem s242_16 {L : Nat} {xs : Nat → Int32} {d x : Nat} {M : qxM} {st : List Value} {ls : qxL} {z y : Int32} : Rs L xs (d) 242 16 ls (.int y :: .int z :: st) M x = Rs L xs (d) 242 17 ls (.int (z + y) :: st) M x := Rs_next c242_16 rfl
theorem c242_17 : qx_code 242 17 = some (17, .iaload, 18, 0, 0, 0) := by decide +kernel
theorem s242_17 {L : Nat} {xs : Nat → Int32} {d x : Nat} {M : qxM} {st : List Value} {ls : qxL} {t : Nat} {j : Int32} (hk : qx_kd t = 0) (hj : qx_ib j (qx_ln t) = true) : Rs L xs (d) 242 17 ls (.int j :: .ref t :: st) M x = Rs L xs (d) 242 18 ls (.int (M.1 t j.toNatClampNeg) :: st) M x := by
  have h1 := qx_kd_row (k := 0) (by decide) hk
  exact Rs_unless (qx_ib_not hj) c242_17 (by unfold qx_act; dsimp only; rw [h1]; rfl)
theorem c242_18 : qx_code 242 18 = some (18, .if_icmp .ge 27, 21, 45, 0, 0) := by decide +kernel
theorem s242_18 {L : Nat} {xs : Nat → Int32} {d x : Nat} {M : qxM} {st : List Value} {ls : qxL} {z y : Int32} : Rs L xs (d) 242 18 ls (.int y :: .int z :: st) M x = if y ≤ z then Rs L xs (d) 242 45 ls st M x else Rs L xs (d) 242 21 ls st M x := Rs_ite c242_18 rfl
theorem c242_21 : qx_code 242 21 = some (21, .aload_n 0, 22, 0, 0, 0) := by decide +kernel
theorem s242_21 {L : Nat} {xs : Nat → Int32} {d x : Nat} {M : qxM} {st : List Value} {a1 a2 a3 : Option Value} {z : Nat} : Rs L xs (d) 242 21 [some (.ref z), a1, a2, a3] st M x = Rs L xs (d) 242 22 [some (.ref z), a1, a2, a3] (.ref z :: st) M x := Rs_next c242_21 rfl
theorem c242_22 : qx_code 242 22 = some (22, .aload_n 0, 23, 0, 0, 0) := by decide +kernel
theorem s242_22 {L : Nat} {xs : Nat → Int32} {d x : Nat} {M : qxM} {st : List Value} {a1 a2 a3 : Option Value} {z : Nat} : Rs L xs (d) 242 22 [some (.ref z), a1, a2, a3] st M x = Rs L xs (d) 242 23 [some (.ref z), a1, a2, a3] (.ref z :: st) M x := Rs_next c242_22 rfl
theorem c242_23 : qx_code 242 23 = some (23, .iload_n 1, 24, 0, 0, 0) := by decide +kernel
theorem s242_23 {L : Nat} {xs : Nat → Int32} {d x : Nat} {M : qxM} {st : List Value} {a0 a2 a3 : Option Value} {z : Int32} : Rs L xs (d) 242 23 [a0, some (.int z), a2, a3] st M x = Rs L xs (d) 242 24 [a0, some (.int z), a2, a3] (.int z :: st) M x := Rs_next c242_23 rfl
theorem c242_24 : qx_code 242 24 = some (24, .iload_n 3, 25, 0, 0, 0) := by decide +kernel
theorem s242_24 {L : Nat} {xs : Nat → Int32} {d x : Nat} {M : qxM} {st : List Value} {a0 a1 a2 : Option Value} {z : Int32} : Rs L xs (d) 242 24 [a0, a1, a2, some (.int z)] st M x = Rs L xs (d) 242 25 [a0, a1, a2, some (.int z)] (.int z :: st) M x := Rs_next c242_24 rfl
theorem c242_25 : qx_code 242 25 = some (25, .invokevirtual 241, 28, 235, 3, 1910) := by decide +kernel
theorem s242_25 {L : Nat} {xs : Nat → Int32} {d x : Nat} {M : qxM} {st : List Value} {ls : qxL} {t : Nat} {z0 : Int32} {z1 : Int32} (hk : qx_kd t = 18) (hs : st.length ≤ 4) : Rs L xs (d + 1) 242 25 ls (.int z1 :: .int z0 :: .ref t :: st) M x = (Rs L xs d 235 0 [some (.ref t), some (.int z0), some (.int z1)] [] M 0).bind (qx_kn L xs (d + 1) 242 25 28 235 ls st x) := by
  have h1 : qx_act L xs (qx_rt 242) (25, .invokevirtual 241, 28, 235, 3, 1910) ls (.int z1 :: .int z0 :: .ref t :: st) M = if 3 ≤ (.int z1 :: .int z0 :: .ref t :: st).length ∧ st.length ≤ 4 then some (.inr (.inr (.inr (235, [.ref t, .int z0, .int z1], st)))) else none := rfl
  rw [if_pos ⟨by simp [List.length_cons]; try omega, hs⟩] at h1
  have h2 := qx_kd_obj (k := 8) (by decide) hk
  exact Rs_call c242_25 h1 (by rw [show qx_args 235 [.ref t, .int z0, .int z1] = decide (qx_sh t = some (.inl 8)) from rfl]; exact decide_eq_true h2)
theorem c242_28 : qx_code 242 28 = some (28, .aload_n 0, 29, 0, 0, 0) := by decide +kernel
theorem s242_28 {L : Nat} {xs : Nat → Int32} {d x : Nat} {M : qxM} {st : List Value} {a1 a2 a3 : Option Value} {z : Nat} : Rs L xs (d) 242 28 [some (.ref z), a1, a2, a3] st M x = Rs L xs (d) 242 29 [some (.ref z), a1, a2, a3] (.ref z :: st) M x := Rs_next c242_28 rfl
theorem c242_29 : qx_code 242 29 = some (29, .iload_n 1, 30, 0, 0, 0) := by decide +kernel
theorem s242_29 {L : Nat} {xs : Nat → Int32} {d x : Nat} {M : qxM} {st : List Value} {a0 a2 a3 : Option Value} {z : Int32} : Rs L xs (d) 242 29 [a0, some (.int z), a2, a3] st M x = Rs L xs (d) 242 30 [a0, some (.int z), a2, a3] (.int z :: st) M x := Rs_next c242_29 rfl
theorem c242_30 : qx_code 242 30 = some (30, .iload_n 3, 31, 0, 0, 0) := by decide +kernel
theorem s242_30 {L : Nat} {xs : Nat → Int32} {d x : Nat} {M : qxM} {st : List Value} {a0 a1 a2 : Option Value} {z : Int32} : Rs L xs (d) 242 30 [a0, a1, a2, some (.int z)] st M x = Rs L xs (d) 242 31 [a0, a1, a2, some (.int z)] (.int z :: st) M x := Rs_next c242_30 rfl
theorem c242_31 : qx_code 242 31 = some (31, .iconst 1, 32, 0, 0, 0) := by decide +kernel
theorem s242_31 {L : Nat} {xs : Nat → Int32} {d x : Nat} {M : qxM} {st : List Value} {ls : qxL} : Rs L xs (d) 242 31 ls st M x = Rs L xs (d) 242 32 ls (.int (nI 1) :: st) M x := Rs_next c242_31 rfl
theorem c242_32 : qx_code 242 32 = some (32, .iadd, 33, 0, 0, 0) := by decide +kernel
theorem s242_32 {L : Nat} {xs : Nat → Int32} {d x : Nat} {M : qxM} {st : List Value} {ls : qxL} {z y : Int32} : Rs L xs (d) 242 32 ls (.int y :: .int z :: st) M x = Rs L xs (d) 242 33 ls (.int (z + y) :: st) M x := Rs_next c242_32 rfl
theorem c242_33 : qx_code 242 33 = some (33, .invokevirtual 241, 36, 235, 3, 1910) := by decide +kernel
theorem s242_33 {L : Nat} {xs : Nat → Int32} {d x : Nat} {M : qxM} {st : List Value} {ls : qxL} {t : Nat} {z0 : Int32} {z1 : Int32} (hk : qx_kd t = 18) (hs : st.length ≤ 4) : Rs L xs (d + 1) 242 33 ls (.int z1 :: .int z0 :: .ref t :: st) M x = (Rs L xs d 235 0 [some (.ref t), some (.int z0), some (.int z1)] [] M 0).bind (qx_kn L xs (d + 1) 242 33 36 235 ls st x) := by
  have h1 : qx_act L xs (qx_rt 242) (33, .invokevirtual 241, 36, 235, 3, 1910) ls (.int z1 :: .int z0 :: .ref t :: st) M = if 3 ≤ (.int z1 :: .int z0 :: .ref t :: st).length ∧ st.length ≤ 4 then some (.inr (.inr (.inr (235, [.ref t, .int z0, .int z1], st)))) else none := rfl
  rw [if_pos ⟨by simp [List.length_cons]; try omega, hs⟩] at h1
  have h2 := qx_kd_obj (k := 8) (by decide) hk
  exact Rs_call c242_33 h1 (by rw [show qx_args 235 [.ref t, .int z0, .int z1] = decide (qx_sh t = some (.inl 8)) from rfl]; exact decide_eq_true h2)
theorem c242_36 : qx_code 242 36 = some (36, .invokevirtual 139, 39, 214, 3, 1753) := by decide +kernel
theorem s242_36 {L : Nat} {xs : Nat → Int32} {d x : Nat} {M : qxM} {st : List Value} {ls : qxL} {t : Nat} {z0 : Int32} {z1 : Int32} (hk : qx_kd t = 18) (hs : st.length ≤ 4) : Rs L xs (d + 1) 242 36 ls (.int z1 :: .int z0 :: .ref t :: st) M x = (Rs L xs d 214 0 [some (.ref t), some (.int z0), some (.int z1)] [] M 0).bind (qx_kn L xs (d + 1) 242 36 39 214 ls st x) := by
  have h1 : qx_act L xs (qx_rt 242) (36, .invokevirtual 139, 39, 214, 3, 1753) ls (.int z1 :: .int z0 :: .ref t :: st) M = if 3 ≤ (.int z1 :: .int z0 :: .ref t :: st).length ∧ st.length ≤ 4 then some (.inr (.inr (.inr (214, [.ref t, .int z0, .int z1], st)))) else none := rfl
  rw [if_pos ⟨by simp [List.length_cons]; try omega, hs⟩] at h1
  have h2 := qx_kd_obj (k := 8) (by decide) hk
  exact Rs_call c242_36 h1 (by rw [show qx_args 214 [.ref t, .int z0, .int z1] = decide (qx_sh t = some (.inl 8)) from rfl]; exact decide_eq_true h2)
theorem c242_39 : qx_code 242 39 = some (39, .iinc 3 2, 42, 0, 0, 0) := by decide +kernel
theorem s242_39i {L : Nat} {xs : Nat → Int32} {d x : Nat} {M : qxM} {st : List Value} {a0 a1 : Option Value} {z : Int32} {y : Int32} : Rs L xs (d) 242 39 [a0, a1, some (.int y), some (.int z)] st M x = Rs L xs (d) 242 42 [a0, a1, some (.int y), some (.int (z + (nI 2)))] st M x := Rs_next c242_39 rfl
theorem s242_39r {L : Nat} {xs : Nat → Int32} {d x : Nat} {M : qxM} {st : List Value} {a0 a1 : Option Value} {z : Int32} {y : Nat} : Rs L xs (d) 242 39 [a0, a1, some (.ref y), some (.int z)] st M x = Rs L xs (d) 242 42 [a0, a1, some (.ref y), some (.int (z + (nI 2)))] st M x := Rs_next c242_39 rfl
theorem s242_39n {L : Nat} {xs : Nat → Int32} {d x : Nat} {M : qxM} {st : List Value} {a0 a1 : Option Value} {z : Int32} : Rs L xs (d) 242 39 [a0, a1, none, some (.int z)] st M x = Rs L xs (d) 242 42 [a0, a1, none, some (.int (z + (nI 2)))] st M x := Rs_next c242_39 rfl
theorem c242_42 : qx_code 242 42 = some (42, .goto (-34), 45, 8, 0, 0) := by decide +kernel
theorem s242_42 {L : Nat} {xs : Nat → Int32} {d x : Nat} {M : qxM} {st : List Value} {ls : qxL} : Rs L xs (d) 242 42 ls st M x = Rs L xs (d) 242 8 ls st M x := Rs_next c242_42 rfl
theorem c242_45 : qx_code 242 45 = some (45, .aload_n 0, 46, 0, 0, 0) := by decide +kernel
theorem s242_45 {L : Nat} {xs : Nat → Int32} {d x : Nat} {M : qxM} {st : List Value} {a1 a2 a3 : Option Value} {z : Nat} : Rs L xs (d) 242 45 [some (.ref z), a1, a2, a3] st M x = Rs L xs (d) 242 46 [some (.ref z), a1, a2, a3] (.ref z :: st) M x := Rs_next c242_45 rfl
theorem c242_46 : qx_code 242 46 = some (46, .getfield 9, 49, 8, 1, 1546) := by decide +kernel
theorem s242_46 {L : Nat} {xs : Nat → Int32} {d x : Nat} {M : qxM} {st : List Value} {ls : qxL} {t : Nat} (hk : qx_kd t = 18) : Rs L xs (d) 242 46 ls (.ref t :: st) M x = Rs L xs (d) 242 49 ls (.ref (t + 1) :: st) M x := Rs_when (qx_kd_obj (k := 8) (by decide) hk) c242_46 rfl
theorem c242_49 : qx_code 242 49 = some (49, .bipush 35, 51, 0, 0, 0) := by decide +kernel
theorem s242_49 {L : Nat} {xs : Nat → Int32} {d x : Nat} {M : qxM} {st : List Value} {ls : qxL} : Rs L xs (d) 242 49 ls st M x = Rs L xs (d) 242 51 ls (.int (nI 35) :: st) M x := Rs_next c242_49 rfl
theorem c242_51 : qx_code 242 51 = some (51, .iconst 2, 52, 0, 0, 0) := by decide +kernel
theorem s242_51 {L : Nat} {xs : Nat → Int32} {d x : Nat} {M : qxM} {st : List Value} {ls : qxL} : Rs L xs (d) 242 51 ls st M x = Rs L xs (d) 242 52 ls (.int (nI 2) :: st) M x := Rs_next c242_51 rfl
theorem c242_52 : qx_code 242 52 = some (52, .iastore, 53, 0, 0, 0) := by decide +kernel
theorem s242_52 {L : Nat} {xs : Nat → Int32} {d x : Nat} {M : qxM} {st : List Value} {ls : qxL} {t : Nat} {j : Int32} {z : Int32} (hk : qx_kd t = 0) (hj : qx_ib j (qx_ln t) = true) : Rs L xs (d) 242 52 ls (.int z :: .int j :: .ref t :: st) M x = Rs L xs (d) 242 53 ls st (qx_up M t j.toNatClampNeg z) x := by
  have h1 := qx_kd_row (k := 0) (by decide) hk
  exact Rs_unless (qx_ib_not hj) c242_52 (by unfold qx_act; dsimp only; rw [h1]; rfl)
theorem c242_53 : qx_code 242 53 = some (53, .aload_n 0, 54, 0, 0, 0) := by decide +kernel
theorem s242_53 {L : Nat} {xs : Nat → Int32} {d x : Nat} {M : qxM} {st : List Value} {a1 a2 a3 : Option Value} {z : Nat} : Rs L xs (d) 242 53 [some (.ref z), a1, a2, a3] st M x = Rs L xs (d) 242 54 [some (.ref z), a1, a2, a3] (.ref z :: st) M x := Rs_next c242_53 rfl
theorem c242_54 : qx_code 242 54 = some (54, .getfield 9, 57, 8, 1, 1546) := by decide +kernel
theorem s242_54 {L : Nat} {xs : Nat → Int32} {d x : Nat} {M : qxM} {st : List Value} {ls : qxL} {t : Nat} (hk : qx_kd t = 18) : Rs L xs (d) 242 54 ls (.ref t :: st) M x = Rs L xs (d) 242 57 ls (.ref (t + 1) :: st) M x := Rs_when (qx_kd_obj (k := 8) (by decide) hk) c242_54 rfl
theorem c242_57 : qx_code 242 57 = some (57, .iconst 3, 58, 0, 0, 0) := by decide +kernel
theorem s242_57 {L : Nat} {xs : Nat → Int32} {d x : Nat} {M : qxM} {st : List Value} {ls : qxL} : Rs L xs (d) 242 57 ls st M x = Rs L xs (d) 242 58 ls (.int (nI 3) :: st) M x := Rs_next c242_57 rfl
theorem c242_58 : qx_code 242 58 = some (58, .dup2, 59, 0, 0, 0) := by decide +kernel
theorem s242_58 {L : Nat} {xs : Nat → Int32} {d x : Nat} {M : qxM} {st : List Value} {ls : qxL} {z : Nat} {y : Int32} : Rs L xs (d) 242 58 ls (.int y :: .ref z :: st) M x = Rs L xs (d) 242 59 ls (.int y :: .ref z :: .int y :: .ref z :: st) M x := Rs_next c242_58 rfl
theorem c242_59 : qx_code 242 59 = some (59, .iaload, 60, 0, 0, 0) := by decide +kernel
theorem s242_59 {L : Nat} {xs : Nat → Int32} {d x : Nat} {M : qxM} {st : List Value} {ls : qxL} {t : Nat} {j : Int32} (hk : qx_kd t = 0) (hj : qx_ib j (qx_ln t) = true) : Rs L xs (d) 242 59 ls (.int j :: .ref t :: st) M x = Rs L xs (d) 242 60 ls (.int (M.1 t j.toNatClampNeg) :: st) M x := by
  have h1 := qx_kd_row (k := 0) (by decide) hk
  exact Rs_unless (qx_ib_not hj) c242_59 (by unfold qx_act; dsimp only; rw [h1]; rfl)
theorem c242_60 : qx_code 242 60 = some (60, .iconst 1, 61, 0, 0, 0) := by decide +kernel
theorem s242_60 {L : Nat} {xs : Nat → Int32} {d x : Nat} {M : qxM} {st : List Value} {ls : qxL} : Rs L xs (d) 242 60 ls st M x = Rs L xs (d) 242 61 ls (.int (nI 1) :: st) M x := Rs_next c242_60 rfl
theorem c242_61 : qx_code 242 61 = some (61, .iadd, 62, 0, 0, 0) := by decide +kernel
theorem s242_61 {L : Nat} {xs : Nat → Int32} {d x : Nat} {M : qxM} {st : List Value} {ls : qxL} {z y : Int32} : Rs L xs (d) 242 61 ls (.int y :: .int z :: st) M x = Rs L xs (d) 242 62 ls (.int (z + y) :: st) M x := Rs_next c242_61 rfl
theorem c242_62 : qx_code 242 62 = some (62, .iastore, 63, 0, 0, 0) := by decide +kernel
theorem s242_62 {L : Nat} {xs : Nat → Int32} {d x : Nat} {M : qxM} {st : List Value} {ls : qxL} {t : Nat} {j : Int32} {z : Int32} (hk : qx_kd t = 0) (hj : qx_ib j (qx_ln t) = true) : Rs L xs (d) 242 62 ls (.int z :: .int j :: .ref t :: st) M x = Rs L xs (d) 242 63 ls st (qx_up M t j.toNatClampNeg z) x := by
  have h1 := qx_kd_row (k := 0) (by decide) hk
  exact Rs_unless (qx_ib_not hj) c242_62 (by unfold qx_act; dsimp only; rw [h1]; rfl)
theorem c242_63 : qx_code 242 63 = some (63, .iconst 3, 64, 0, 0, 0) := by decide +kernel
theorem s242_63 {L : Nat} {xs : Nat → Int32} {d x : Nat} {M : qxM} {st : List Value} {ls : qxL} : Rs L xs (d) 242 63 ls st M x = Rs L xs (d) 242 64 ls (.int (nI 3) :: st) M x := Rs_next c242_63 rfl
theorem c242_64 : qx_code 242 64 = some (64, .ireturn, 65, 0, 0, 0) := by decide +kernel
theorem s242_64 {L : Nat} {xs : Nat → Int32} {d x : Nat} {M : qxM} {ls : qxL} {z : Int32} : Rs L xs (d) 242 64 ls [.int z] M x = some (.inl (some (.int z)), M, x) := Rs_ret c242_64 rfl
theorem c243_0 : qx_code 243 0 = some (0, .aload_n 0, 1, 0, 0, 0) := by decide +kernel
theorem s243_0 {L : Nat} {xs : Nat → Int32} {d x : Nat} {M : qxM} {st : List Value} {a1 a2 a3 a4 a5 : Option Value} {z : Nat} : Rs L xs (d) 243 0 [some (.ref z), a1, a2, a3, a4, a5] st M x = Rs L xs (d) 243 1 [some (.ref z), a1, a2, a3, a4, a5] (.ref z :: st) M x := Rs_next c243_0 rfl
theorem c243_1 : qx_code 243 1 = some (1, .iload_n 2, 2, 0, 0, 0) := by decide +kernel
theorem s243_1 {L : Nat} {xs : Nat → Int32} {d x : Nat} {M : qxM} {st : List Value} {a0 a1 a3 a4 a5 : Option Value} {z : Int32} : Rs L xs (d) 243 1 [a0, a1, some (.int z), a3, a4, a5] st M x = Rs L xs (d) 243 2 [a0, a1, some (.int z), a3, a4, a5] (.int z :: st) M x := Rs_next c243_1 rfl
theorem c243_2 : qx_code 243 2 = some (2, .invokevirtual 132, 5, 213, 2, 1737) := by decide +kernel
theorem s243_2 {L : Nat} {xs : Nat → Int32} {d x : Nat} {M : qxM} {st : List Value} {ls : qxL} {t : Nat} {z0 : Int32} (hk : qx_kd t = 18) (hs : st.length ≤ 4) : Rs L xs (d + 1) 243 2 ls (.int z0 :: .ref t :: st) M x = (Rs L xs d 213 0 [some (.ref t), some (.int z0)] [] M 0).bind (qx_kn L xs (d + 1) 243 2 5 213 ls st x) := by
  have h1 : qx_act L xs (qx_rt 243) (2, .invokevirtual 132, 5, 213, 2, 1737) ls (.int z0 :: .ref t :: st) M = if 2 ≤ (.int z0 :: .ref t :: st).length ∧ st.length ≤ 4 then some (.inr (.inr (.inr (213, [.ref t, .int z0], st)))) else none := rfl
  rw [if_pos ⟨by simp [List.length_cons]; try omega, hs⟩] at h1
  have h2 := qx_kd_obj (k := 8) (by decide) hk
  exact Rs_call c243_2 h1 (by rw [show qx_args 213 [.ref t, .int z0] = decide (qx_sh t = some (.inl 8)) from rfl]; exact decide_eq_true h2)
theorem c243_5 : qx_code 243 5 = some (5, .istore_n 3, 6, 0, 0, 0) := by decide +kernel
theorem s243_5i {L : Nat} {xs : Nat → Int32} {d x : Nat} {M : qxM} {st : List Value} {a0 a1 a3 a4 a5 : Option Value} {z : Int32} {y : Int32} : Rs L xs (d) 243 5 [a0, a1, some (.int y), a3, a4, a5] (.int z :: st) M x = Rs L xs (d) 243 6 [a0, a1, some (.int y), some (.int z), a4, a5] st M x := Rs_next c243_5 rfl
theorem s243_5r {L : Nat} {xs : Nat → Int32} {d x : Nat} {M : qxM} {st : List Value} {a0 a1 a3 a4 a5 : Option Value} {z : Int32} {y : Nat} : Rs L xs (d) 243 5 [a0, a1, some (.ref y), a3, a4, a5] (.int z :: st) M x = Rs L xs (d) 243 6 [a0, a1, some (.ref y), some (.int z), a4, a5] st M x := Rs_next c243_5 rfl
theorem s243_5n {L : Nat} {xs : Nat → Int32} {d x : Nat} {M : qxM} {st : List Value} {a0 a1 a3 a4 a5 : Option Value} {z : Int32} : Rs L xs (d) 243 5 [a0, a1, none, a3, a4, a5] (.int z :: st) M x = Rs L xs (d) 243 6 [a0, a1, none, some (.int z), a4, a5] st M x := Rs_next c243_5 rfl
theorem c243_6 : qx_code 243 6 = some (6, .aload_n 0, 7, 0, 0, 0) := by decide +kernel
theorem s243_6 {L : Nat} {xs : Nat → Int32} {d x : Nat} {M : qxM} {st : List Value} {a1 a2 a3 a4 a5 : Option Value} {z : Nat} : Rs L xs (d) 243 6 [some (.ref z), a1, a2, a3, a4, a5] st M x = Rs L xs (d) 243 7 [some (.ref z), a1, a2, a3, a4, a5] (.ref z :: st) M x := Rs_next c243_6 rfl
theorem c243_7 : qx_code 243 7 = some (7, .getfield 9, 10, 8, 1, 1546) := by decide +kernel
theorem s243_7 {L : Nat} {xs : Nat → Int32} {d x : Nat} {M : qxM} {st : List Value} {ls : qxL} {t : Nat} (hk : qx_kd t = 18) : Rs L xs (d) 243 7 ls (.ref t :: st) M x = Rs L xs (d) 243 10 ls (.ref (t + 1) :: st) M x := Rs_when (qx_kd_obj (k := 8) (by decide) hk) c243_7 rfl
theorem c243_10 : qx_code 243 10 = some (10, .bipush 83, 12, 0, 0, 0) := by decide +kernel
theorem s243_10 {L : Nat} {xs : Nat → Int32} {d x : Nat} {M : qxM} {st : List Value} {ls : qxL} : Rs L xs (d) 243 10 ls st M x = Rs L xs (d) 243 12 ls (.int (nI 83) :: st) M x := Rs_next c243_10 rfl
theorem c243_12 : qx_code 243 12 = some (12, .iload_n 2, 13, 0, 0, 0) := by decide +kernel
theorem s243_12 {L : Nat} {xs : Nat → Int32} {d x : Nat} {M : qxM} {st : List Value} {a0 a1 a3 a4 a5 : Option Value} {z : Int32} : Rs L xs (d) 243 12 [a0, a1, some (.int z), a3, a4, a5] st M x = Rs L xs (d) 243 13 [a0, a1, some (.int z), a3, a4, a5] (.int z :: st) M x := Rs_next c243_12 rfl
theorem c243_13 : qx_code 243 13 = some (13, .iadd, 14, 0, 0, 0) := by decide +kernel
theorem s243_13 {L : Nat} {xs : Nat → Int32} {d x : Nat} {M : qxM} {st : List Value} {ls : qxL} {z y : Int32} : Rs L xs (d) 243 13 ls (.int y :: .int z :: st) M x = Rs L xs (d) 243 14 ls (.int (z + y) :: st) M x := Rs_next c243_13 rfl
theorem c243_14 : qx_code 243 14 = some (14, .iload_n 1, 15, 0, 0, 0) := by decide +kernel
theorem s243_14 {L : Nat} {xs : Nat → Int32} {d x : Nat} {M : qxM} {st : List Value} {a0 a2 a3 a4 a5 : Option Value} {z : Int32} : Rs L xs (d) 243 14 [a0, some (.int z), a2, a3, a4, a5] st M x = Rs L xs (d) 243 15 [a0, some (.int z), a2, a3, a4, a5] (.int z :: st) M x := Rs_next c243_14 rfl
theorem c243_15 : qx_code 243 15 = some (15, .iastore, 16, 0, 0, 0) := by decide +kernel
theorem s243_15 {L : Nat} {xs : Nat → Int32} {d x : Nat} {M : qxM} {st : List Value} {ls : qxL} {t : Nat} {j : Int32} {z : Int32} (hk : qx_kd t = 0) (hj : qx_ib j (qx_ln t) = true) : Rs L xs (d) 243 15 ls (.int z :: .int j :: .ref t :: st) M x = Rs L xs (d) 243 16 ls st (qx_up M t j.toNatClampNeg z) x := by
  have h1 := qx_kd_row (k := 0) (by decide) hk
  exact Rs_unless (qx_ib_not hj) c243_15 (by unfold qx_act; dsimp only; rw [h1]; rfl)
theorem c243_16 : qx_code 243 16 = some (16, .aload_n 0, 17, 0, 0, 0) := by decide +kernel
theorem s243_16 {L : Nat} {xs : Nat → Int32} {d x : Nat} {M : qxM} {st : List Value} {a1 a2 a3 a4 a5 : Option Value} {z : Nat} : Rs L xs (d) 243 16 [some (.ref z), a1, a2, a3, a4, a5] st M x = Rs L xs (d) 243 17 [some (.ref z), a1, a2, a3, a4, a5] (.ref z :: st) M x := Rs_next c243_16 rfl
theorem c243_17 : qx_code 243 17 = some (17, .iload_n 2, 18, 0, 0, 0) := by decide +kernel
theorem s243_17 {L : Nat} {xs : Nat → Int32} {d x : Nat} {M : qxM} {st : List Value} {a0 a1 a3 a4 a5 : Option Value} {z : Int32} : Rs L xs (d) 243 17 [a0, a1, some (.int z), a3, a4, a5] st M x = Rs L xs (d) 243 18 [a0, a1, some (.int z), a3, a4, a5] (.int z :: st) M x := Rs_next c243_17 rfl
theorem c243_18 : qx_code 243 18 = some (18, .iconst 2, 19, 0, 0, 0) := by decide +kernel
theorem s243_18 {L : Nat} {xs : Nat → Int32} {d x : Nat} {M : qxM} {st : List Value} {ls : qxL} : Rs L xs (d) 243 18 ls st M x = Rs L xs (d) 243 19 ls (.int (nI 2) :: st) M x := Rs_next c243_18 rfl
theorem c243_19 : qx_code 243 19 = some (19, .invokevirtual 247, 22, 233, 3, 2077) := by decide +kernel
theorem s243_19 {L : Nat} {xs : Nat → Int32} {d x : Nat} {M : qxM} {st : List Value} {ls : qxL} {t : Nat} {z0 : Int32} {z1 : Int32} (hk : qx_kd t = 18) (hs : st.length ≤ 4) : Rs L xs (d + 1) 243 19 ls (.int z1 :: .int z0 :: .ref t :: st) M x = (Rs L xs d 233 0 [some (.ref t), some (.int z0), some (.int z1)] [] M 0).bind (qx_kn L xs (d + 1) 243 19 22 233 ls st x) := by
  have h1 : qx_act L xs (qx_rt 243) (19, .invokevirtual 247, 22, 233, 3, 2077) ls (.int z1 :: .int z0 :: .ref t :: st) M = if 3 ≤ (.int z1 :: .int z0 :: .ref t :: st).length ∧ st.length ≤ 4 then some (.inr (.inr (.inr (233, [.ref t, .int z0, .int z1], st)))) else none := rfl
  rw [if_pos ⟨by simp [List.length_cons]; try omega, hs⟩] at h1
  have h2 := qx_kd_obj (k := 8) (by decide) hk
  exact Rs_call c243_19 h1 (by rw [show qx_args 233 [.ref t, .int z0, .int z1] = decide (qx_sh t = some (.inl 8)) from rfl]; exact decide_eq_true h2)
theorem c243_22 : qx_code 243 22 = some (22, .istore 4, 24, 0, 0, 0) := by decide +kernel
theorem s243_22i {L : Nat} {xs : Nat → Int32} {d x : Nat} {M : qxM} {st : List Value} {a0 a1 a2 a4 a5 : Option Value} {z : Int32} {y : Int32} : Rs L xs (d) 243 22 [a0, a1, a2, some (.int y), a4, a5] (.int z :: st) M x = Rs L xs (d) 243 24 [a0, a1, a2, some (.int y), some (.int z), a5] st M x := Rs_next c243_22 rfl
theorem s243_22r {L : Nat} {xs : Nat → Int32} {d x : Nat} {M : qxM} {st : List Value} {a0 a1 a2 a4 a5 : Option Value} {z : Int32} {y : Nat} : Rs L xs (d) 243 22 [a0, a1, a2, some (.ref y), a4, a5] (.int z :: st) M x = Rs L xs (d) 243 24 [a0, a1, a2, some (.ref y), some (.int z), a5] st M x := Rs_next c243_22 rfl
theorem s243_22n {L : Nat} {xs : Nat → Int32} {d x : Nat} {M : qxM} {st : List Value} {a0 a1 a2 a4 a5 : Option Value} {z : Int32} : Rs L xs (d) 243 22 [a0, a1, a2, none, a4, a5] (.int z :: st) M x = Rs L xs (d) 243 24 [a0, a1, a2, none, some (.int z), a5] st M x := Rs_next c243_22 rfl
theorem c243_24 : qx_code 243 24 = some (24, .aload_n 0, 25, 0, 0, 0) := by decide +kernel
theorem s243_24 {L : Nat} {xs : Nat → Int32} {d x : Nat} {M : qxM} {st : List Value} {a1 a2 a3 a4 a5 : Option Value} {z : Nat} : Rs L xs (d) 243 24 [some (.ref z), a1, a2, a3, a4, a5] st M x = Rs L xs (d) 243 25 [some (.ref z), a1, a2, a3, a4, a5] (.ref z :: st) M x := Rs_next c243_24 rfl
theorem c243_25 : qx_code 243 25 = some (25, .iload_n 3, 26, 0, 0, 0) := by decide +kernel
theorem s243_25 {L : Nat} {xs : Nat → Int32} {d x : Nat} {M : qxM} {st : List Value} {a0 a1 a2 a4 a5 : Option Value} {z : Int32} : Rs L xs (d) 243 25 [a0, a1, a2, some (.int z), a4, a5] st M x = Rs L xs (d) 243 26 [a0, a1, a2, some (.int z), a4, a5] (.int z :: st) M x := Rs_next c243_25 rfl
theorem c243_26 : qx_code 243 26 = some (26, .iconst 1, 27, 0, 0, 0) := by decide +kernel
theorem s243_26 {L : Nat} {xs : Nat → Int32} {d x : Nat} {M : qxM} {st : List Value} {ls : qxL} : Rs L xs (d) 243 26 ls st M x = Rs L xs (d) 243 27 ls (.int (nI 1) :: st) M x := Rs_next c243_26 rfl
theorem c243_27 : qx_code 243 27 = some (27, .invokevirtual 247, 30, 233, 3, 2077) := by decide +kernel
theorem s243_27 {L : Nat} {xs : Nat → Int32} {d x : Nat} {M : qxM} {st : List Value} {ls : qxL} {t : Nat} {z0 : Int32} {z1 : Int32} (hk : qx_kd t = 18) (hs : st.length ≤ 4) : Rs L xs (d + 1) 243 27 ls (.int z1 :: .int z0 :: .ref t :: st) M x = (Rs L xs d 233 0 [some (.ref t), some (.int z0), some (.int z1)] [] M 0).bind (qx_kn L xs (d + 1) 243 27 30 233 ls st x) := by
  have h1 : qx_act L xs (qx_rt 243) (27, .invokevirtual 247, 30, 233, 3, 2077) ls (.int z1 :: .int z0 :: .ref t :: st) M = if 3 ≤ (.int z1 :: .int z0 :: .ref t :: st).length ∧ st.length ≤ 4 then some (.inr (.inr (.inr (233, [.ref t, .int z0, .int z1], st)))) else none := rfl
  rw [if_pos ⟨by simp [List.length_cons]; try omega, hs⟩] at h1
  have h2 := qx_kd_obj (k := 8) (by decide) hk
  exact Rs_call c243_27 h1 (by rw [show qx_args 233 [.ref t, .int z0, .int z1] = decide (qx_sh t = some (.inl 8)) from rfl]; exact decide_eq_true h2)
theorem c243_30 : qx_code 243 30 = some (30, .istore 5, 32, 0, 0, 0) := by decide +kernel
theorem s243_30i {L : Nat} {xs : Nat → Int32} {d x : Nat} {M : qxM} {st : List Value} {a0 a1 a2 a3 a5 : Option Value} {z : Int32} {y : Int32} : Rs L xs (d) 243 30 [a0, a1, a2, a3, some (.int y), a5] (.int z :: st) M x = Rs L xs (d) 243 32 [a0, a1, a2, a3, some (.int y), some (.int z)] st M x := Rs_next c243_30 rfl
theorem s243_30r {L : Nat} {xs : Nat → Int32} {d x : Nat} {M : qxM} {st : List Value} {a0 a1 a2 a3 a5 : Option Value} {z : Int32} {y : Nat} : Rs L xs (d) 243 30 [a0, a1, a2, a3, some (.ref y), a5] (.int z :: st) M x = Rs L xs (d) 243 32 [a0, a1, a2, a3, some (.ref y), some (.int z)] st M x := Rs_next c243_30 rfl
theorem s243_30n {L : Nat} {xs : Nat → Int32} {d x : Nat} {M : qxM} {st : List Value} {a0 a1 a2 a3 a5 : Option Value} {z : Int32} : Rs L xs (d) 243 30 [a0, a1, a2, a3, none, a5] (.int z :: st) M x = Rs L xs (d) 243 32 [a0, a1, a2, a3, none, some (.int z)] st M x := Rs_next c243_30 rfl
theorem c243_32 : qx_code 243 32 = some (32, .aload_n 0, 33, 0, 0, 0) := by decide +kernel
theorem s243_32 {L : Nat} {xs : Nat → Int32} {d x : Nat} {M : qxM} {st : List Value} {a1 a2 a3 a4 a5 : Option Value} {z : Nat} : Rs L xs (d) 243 32 [some (.ref z), a1, a2, a3, a4, a5] st M x = Rs L xs (d) 243 33 [some (.ref z), a1, a2, a3, a4, a5] (.ref z :: st) M x := Rs_next c243_32 rfl
theorem c243_33 : qx_code 243 33 = some (33, .iload_n 3, 34, 0, 0, 0) := by decide +kernel
theorem s243_33 {L : Nat} {xs : Nat → Int32} {d x : Nat} {M : qxM} {st : List Value} {a0 a1 a2 a4 a5 : Option Value} {z : Int32} : Rs L xs (d) 243 33 [a0, a1, a2, some (.int z), a4, a5] st M x = Rs L xs (d) 243 34 [a0, a1, a2, some (.int z), a4, a5] (.int z :: st) M x := Rs_next c243_33 rfl
theorem c243_34 : qx_code 243 34 = some (34, .iload_n 3, 35, 0, 0, 0) := by decide +kernel
theorem s243_34 {L : Nat} {xs : Nat → Int32} {d x : Nat} {M : qxM} {st : List Value} {a0 a1 a2 a4 a5 : Option Value} {z : Int32} : Rs L xs (d) 243 34 [a0, a1, a2, some (.int z), a4, a5] st M x = Rs L xs (d) 243 35 [a0, a1, a2, some (.int z), a4, a5] (.int z :: st) M x := Rs_next c243_34 rfl
theorem c243_35 : qx_code 243 35 = some (35, .invokevirtual 244, 38, 236, 3, 2081) := by decide +kernel
theorem s243_35 {L : Nat} {xs : Nat → Int32} {d x : Nat} {M : qxM} {st : List Value} {ls : qxL} {t : Nat} {z0 : Int32} {z1 : Int32} (hk : qx_kd t = 18) (hs : st.length ≤ 4) : Rs L xs (d + 1) 243 35 ls (.int z1 :: .int z0 :: .ref t :: st) M x = (Rs L xs d 236 0 [some (.ref t), some (.int z0), some (.int z1)] [] M 0).bind (qx_kn L xs (d + 1) 243 35 38 236 ls st x) := by
  have h1 : qx_act L xs (qx_rt 243) (35, .invokevirtual 244, 38, 236, 3, 2081) ls (.int z1 :: .int z0 :: .ref t :: st) M = if 3 ≤ (.int z1 :: .int z0 :: .ref t :: st).length ∧ st.length ≤ 4 then some (.inr (.inr (.inr (236, [.ref t, .int z0, .int z1], st)))) else none := rfl
  rw [if_pos ⟨by simp [List.length_cons]; try omega, hs⟩] at h1
  have h2 := qx_kd_obj (k := 8) (by decide) hk
  exact Rs_call c243_35 h1 (by rw [show qx_args 236 [.ref t, .int z0, .int z1] = decide (qx_sh t = some (.inl 8)) from rfl]; exact decide_eq_true h2)
theorem c243_38 : qx_code 243 38 = some (38, .aload_n 0, 39, 0, 0, 0) := by decide +kernel
theorem s243_38 {L : Nat} {xs : Nat → Int32} {d x : Nat} {M : qxM} {st : List Value} {a1 a2 a3 a4 a5 : Option Value} {z : Nat} : Rs L xs (d) 243 38 [some (.ref z), a1, a2, a3, a4, a5] st M x = Rs L xs (d) 243 39 [some (.ref z), a1, a2, a3, a4, a5] (.ref z :: st) M x := Rs_next c243_38 rfl
theorem c243_39 : qx_code 243 39 = some (39, .iload_n 3, 40, 0, 0, 0) := by decide +kernel
theorem s243_39 {L : Nat} {xs : Nat → Int32} {d x : Nat} {M : qxM} {st : List Value} {a0 a1 a2 a4 a5 : Option Value} {z : Int32} : Rs L xs (d) 243 39 [a0, a1, a2, some (.int z), a4, a5] st M x = Rs L xs (d) 243 40 [a0, a1, a2, some (.int z), a4, a5] (.int z :: st) M x := Rs_next c243_39 rfl
theorem c243_40 : qx_code 243 40 = some (40, .iload_n 2, 41, 0, 0, 0) := by decide +kernel
theorem s243_40 {L : Nat} {xs : Nat → Int32} {d x : Nat} {M : qxM} {st : List Value} {a0 a1 a3 a4 a5 : Option Value} {z : Int32} : Rs L xs (d) 243 40 [a0, a1, some (.int z), a3, a4, a5] st M x = Rs L xs (d) 243 41 [a0, a1, some (.int z), a3, a4, a5] (.int z :: st) M x := Rs_next c243_40 rfl
theorem c243_41 : qx_code 243 41 = some (41, .invokevirtual 244, 44, 236, 3, 2081) := by decide +kernel
theorem s243_41 {L : Nat} {xs : Nat → Int32} {d x : Nat} {M : qxM} {st : List Value} {ls : qxL} {t : Nat} {z0 : Int32} {z1 : Int32} (hk : qx_kd t = 18) (hs : st.length ≤ 4) : Rs L xs (d + 1) 243 41 ls (.int z1 :: .int z0 :: .ref t :: st) M x = (Rs L xs d 236 0 [some (.ref t), some (.int z0), some (.int z1)] [] M 0).bind (qx_kn L xs (d + 1) 243 41 44 236 ls st x) := by
  have h1 : qx_act L xs (qx_rt 243) (41, .invokevirtual 244, 44, 236, 3, 2081) ls (.int z1 :: .int z0 :: .ref t :: st) M = if 3 ≤ (.int z1 :: .int z0 :: .ref t :: st).length ∧ st.length ≤ 4 then some (.inr (.inr (.inr (236, [.ref t, .int z0, .int z1], st)))) else none := rfl
  rw [if_pos ⟨by simp [List.length_cons]; try omega, hs⟩] at h1
  have h2 := qx_kd_obj (k := 8) (by decide) hk
  exact Rs_call c243_41 h1 (by rw [show qx_args 236 [.ref t, .int z0, .int z1] = decide (qx_sh t = some (.inl 8)) from rfl]; exact decide_eq_true h2)
theorem c243_44 : qx_code 243 44 = some (44, .aload_n 0, 45, 0, 0, 0) := by decide +kernel
theorem s243_44 {L : Nat} {xs : Nat → Int32} {d x : Nat} {M : qxM} {st : List Value} {a1 a2 a3 a4 a5 : Option Value} {z : Nat} : Rs L xs (d) 243 44 [some (.ref z), a1, a2, a3, a4, a5] st M x = Rs L xs (d) 243 45 [some (.ref z), a1, a2, a3, a4, a5] (.ref z :: st) M x := Rs_next c243_44 rfl
theorem c243_45 : qx_code 243 45 = some (45, .iload_n 3, 46, 0, 0, 0) := by decide +kernel
theorem s243_45 {L : Nat} {xs : Nat → Int32} {d x : Nat} {M : qxM} {st : List Value} {a0 a1 a2 a4 a5 : Option Value} {z : Int32} : Rs L xs (d) 243 45 [a0, a1, a2, some (.int z), a4, a5] st M x = Rs L xs (d) 243 46 [a0, a1, a2, some (.int z), a4, a5] (.int z :: st) M x := Rs_next c243_45 rfl
theorem c243_46 : qx_code 243 46 = some (46, .iload_n 1, 47, 0, 0, 0) := by decide +kernel
theorem s243_46 {L : Nat} {xs : Nat → Int32} {d x : Nat} {M : qxM} {st : List Value} {a0 a2 a3 a4 a5 : Option Value} {z : Int32} : Rs L xs (d) 243 46 [a0, some (.int z), a2, a3, a4, a5] st M x = Rs L xs (d) 243 47 [a0, some (.int z), a2, a3, a4, a5] (.int z :: st) M x := Rs_next c243_46 rfl
theorem c243_47 : qx_code 243 47 = some (47, .invokevirtual 253, 50, 237, 3, 2121) := by decide +kernel
theorem s243_47 {L : Nat} {xs : Nat → Int32} {d x : Nat} {M : qxM} {st : List Value} {ls : qxL} {t : Nat} {z0 : Int32} {z1 : Int32} (hk : qx_kd t = 18) (hs : st.length ≤ 4) : Rs L xs (d + 1) 243 47 ls (.int z1 :: .int z0 :: .ref t :: st) M x = (Rs L xs d 237 0 [some (.ref t), some (.int z0), some (.int z1), none] [] M 0).bind (qx_kn L xs (d + 1) 243 47 50 237 ls st x) := by
  have h1 : qx_act L xs (qx_rt 243) (47, .invokevirtual 253, 50, 237, 3, 2121) ls (.int z1 :: .int z0 :: .ref t :: st) M = if 3 ≤ (.int z1 :: .int z0 :: .ref t :: st).length ∧ st.length ≤ 4 then some (.inr (.inr (.inr (237, [.ref t, .int z0, .int z1], st)))) else none := rfl
  rw [if_pos ⟨by simp [List.length_cons]; try omega, hs⟩] at h1
  have h2 := qx_kd_obj (k := 8) (by decide) hk
  exact Rs_call c243_47 h1 (by rw [show qx_args 237 [.ref t, .int z0, .int z1] = decide (qx_sh t = some (.inl 8)) from rfl]; exact decide_eq_true h2)
theorem c243_50 : qx_code 243 50 = some (50, .aload_n 0, 51, 0, 0, 0) := by decide +kernel
theorem s243_50 {L : Nat} {xs : Nat → Int32} {d x : Nat} {M : qxM} {st : List Value} {a1 a2 a3 a4 a5 : Option Value} {z : Nat} : Rs L xs (d) 243 50 [some (.ref z), a1, a2, a3, a4, a5] st M x = Rs L xs (d) 243 51 [some (.ref z), a1, a2, a3, a4, a5] (.ref z :: st) M x := Rs_next c243_50 rfl
theorem c243_51 : qx_code 243 51 = some (51, .iload_n 3, 52, 0, 0, 0) := by decide +kernel
theorem s243_51 {L : Nat} {xs : Nat → Int32} {d x : Nat} {M : qxM} {st : List Value} {a0 a1 a2 a4 a5 : Option Value} {z : Int32} : Rs L xs (d) 243 51 [a0, a1, a2, some (.int z), a4, a5] st M x = Rs L xs (d) 243 52 [a0, a1, a2, some (.int z), a4, a5] (.int z :: st) M x := Rs_next c243_51 rfl
theorem c243_52 : qx_code 243 52 = some (52, .invokevirtual 250, 55, 234, 2, 2085) := by decide +kernel
theorem s243_52 {L : Nat} {xs : Nat → Int32} {d x : Nat} {M : qxM} {st : List Value} {ls : qxL} {t : Nat} {z0 : Int32} (hk : qx_kd t = 18) (hs : st.length ≤ 4) : Rs L xs (d + 1) 243 52 ls (.int z0 :: .ref t :: st) M x = (Rs L xs d 234 0 [some (.ref t), some (.int z0)] [] M 0).bind (qx_kn L xs (d + 1) 243 52 55 234 ls st x) := by
  have h1 : qx_act L xs (qx_rt 243) (52, .invokevirtual 250, 55, 234, 2, 2085) ls (.int z0 :: .ref t :: st) M = if 2 ≤ (.int z0 :: .ref t :: st).length ∧ st.length ≤ 4 then some (.inr (.inr (.inr (234, [.ref t, .int z0], st)))) else none := rfl
  rw [if_pos ⟨by simp [List.length_cons]; try omega, hs⟩] at h1
  have h2 := qx_kd_obj (k := 8) (by decide) hk
  exact Rs_call c243_52 h1 (by rw [show qx_args 234 [.ref t, .int z0] = decide (qx_sh t = some (.inl 8)) from rfl]; exact decide_eq_true h2)
theorem c243_55 : qx_code 243 55 = some (55, .iconst 1, 56, 0, 0, 0) := by decide +kernel
theorem s243_55 {L : Nat} {xs : Nat → Int32} {d x : Nat} {M : qxM} {st : List Value} {ls : qxL} : Rs L xs (d) 243 55 ls st M x = Rs L xs (d) 243 56 ls (.int (nI 1) :: st) M x := Rs_next c243_55 rfl
theorem c243_56 : qx_code 243 56 = some (56, .ireturn, 57, 0, 0, 0) := by decide +kernel
theorem s243_56 {L : Nat} {xs : Nat → Int32} {d x : Nat} {M : qxM} {ls : qxL} {z : Int32} : Rs L xs (d) 243 56 ls [.int z] M x = some (.inl (some (.int z)), M, x) := Rs_ret c243_56 rfl
theorem c244_0 : qx_code 244 0 = some (0, .aload_n 0, 1, 0, 0, 0) := by decide +kernel
theorem s244_0 {L : Nat} {xs : Nat → Int32} {d x : Nat} {M : qxM} {st : List Value} {a1 : Option Value} {z : Nat} : Rs L xs (d) 244 0 [some (.ref z), a1] st M x = Rs L xs (d) 244 1 [some (.ref z), a1] (.ref z :: st) M x := Rs_next c244_0 rfl
theorem c244_1 : qx_code 244 1 = some (1, .getfield 9, 4, 8, 1, 1546) := by decide +kernel
theorem s244_1 {L : Nat} {xs : Nat → Int32} {d x : Nat} {M : qxM} {st : List Value} {ls : qxL} {t : Nat} (hk : qx_kd t = 18) : Rs L xs (d) 244 1 ls (.ref t :: st) M x = Rs L xs (d) 244 4 ls (.ref (t + 1) :: st) M x := Rs_when (qx_kd_obj (k := 8) (by decide) hk) c244_1 rfl
theorem c244_4 : qx_code 244 4 = some (4, .bipush 69, 6, 0, 0, 0) := by decide +kernel
theorem s244_4 {L : Nat} {xs : Nat → Int32} {d x : Nat} {M : qxM} {st : List Value} {ls : qxL} : Rs L xs (d) 244 4 ls st M x = Rs L xs (d) 244 6 ls (.int (nI 69) :: st) M x := Rs_next c244_4 rfl
theorem c244_6 : qx_code 244 6 = some (6, .aload_n 0, 7, 0, 0, 0) := by decide +kernel
theorem s244_6 {L : Nat} {xs : Nat → Int32} {d x : Nat} {M : qxM} {st : List Value} {a1 : Option Value} {z : Nat} : Rs L xs (d) 244 6 [some (.ref z), a1] st M x = Rs L xs (d) 244 7 [some (.ref z), a1] (.ref z :: st) M x := Rs_next c244_6 rfl
theorem c244_7 : qx_code 244 7 = some (7, .getfield 9, 10, 8, 1, 1546) := by decide +kernel
theorem s244_7 {L : Nat} {xs : Nat → Int32} {d x : Nat} {M : qxM} {st : List Value} {ls : qxL} {t : Nat} (hk : qx_kd t = 18) : Rs L xs (d) 244 7 ls (.ref t :: st) M x = Rs L xs (d) 244 10 ls (.ref (t + 1) :: st) M x := Rs_when (qx_kd_obj (k := 8) (by decide) hk) c244_7 rfl
theorem c244_10 : qx_code 244 10 = some (10, .bipush 83, 12, 0, 0, 0) := by decide +kernel
theorem s244_10 {L : Nat} {xs : Nat → Int32} {d x : Nat} {M : qxM} {st : List Value} {ls : qxL} : Rs L xs (d) 244 10 ls st M x = Rs L xs (d) 244 12 ls (.int (nI 83) :: st) M x := Rs_next c244_10 rfl
theorem c244_12 : qx_code 244 12 = some (12, .aload_n 0, 13, 0, 0, 0) := by decide +kernel
theorem s244_12 {L : Nat} {xs : Nat → Int32} {d x : Nat} {M : qxM} {st : List Value} {a1 : Option Value} {z : Nat} : Rs L xs (d) 244 12 [some (.ref z), a1] st M x = Rs L xs (d) 244 13 [some (.ref z), a1] (.ref z :: st) M x := Rs_next c244_12 rfl
theorem c244_13 : qx_code 244 13 = some (13, .iload_n 1, 14, 0, 0, 0) := by decide +kernel
theorem s244_13 {L : Nat} {xs : Nat → Int32} {d x : Nat} {M : qxM} {st : List Value} {a0 : Option Value} {z : Int32} : Rs L xs (d) 244 13 [a0, some (.int z)] st M x = Rs L xs (d) 244 14 [a0, some (.int z)] (.int z :: st) M x := Rs_next c244_13 rfl
theorem c244_14 : qx_code 244 14 = some (14, .invokevirtual 132, 17, 213, 2, 1737) := by decide +kernel
theorem s244_14 {L : Nat} {xs : Nat → Int32} {d x : Nat} {M : qxM} {st : List Value} {ls : qxL} {t : Nat} {z0 : Int32} (hk : qx_kd t = 18) (hs : st.length ≤ 4) : Rs L xs (d + 1) 244 14 ls (.int z0 :: .ref t :: st) M x = (Rs L xs d 213 0 [some (.ref t), some (.int z0)] [] M 0).bind (qx_kn L xs (d + 1) 244 14 17 213 ls st x) := by
  have h1 : qx_act L xs (qx_rt 244) (14, .invokevirtual 132, 17, 213, 2, 1737) ls (.int z0 :: .ref t :: st) M = if 2 ≤ (.int z0 :: .ref t :: st).length ∧ st.length ≤ 4 then some (.inr (.inr (.inr (213, [.ref t, .int z0], st)))) else none := rfl
  rw [if_pos ⟨by simp [List.length_cons]; try omega, hs⟩] at h1
  have h2 := qx_kd_obj (k := 8) (by decide) hk
  exact Rs_call c244_14 h1 (by rw [show qx_args 213 [.ref t, .int z0] = decide (qx_sh t = some (.inl 8)) from rfl]; exact decide_eq_true h2)
theorem c244_17 : qx_code 244 17 = some (17, .iadd, 18, 0, 0, 0) := by decide +kernel
theorem s244_17 {L : Nat} {xs : Nat → Int32} {d x : Nat} {M : qxM} {st : List Value} {ls : qxL} {z y : Int32} : Rs L xs (d) 244 17 ls (.int y :: .int z :: st) M x = Rs L xs (d) 244 18 ls (.int (z + y) :: st) M x := Rs_next c244_17 rfl
theorem c244_18 : qx_code 244 18 = some (18, .iaload, 19, 0, 0, 0) := by decide +kernel
theorem s244_18 {L : Nat} {xs : Nat → Int32} {d x : Nat} {M : qxM} {st : List Value} {ls : qxL} {t : Nat} {j : Int32} (hk : qx_kd t = 0) (hj : qx_ib j (qx_ln t) = true) : Rs L xs (d) 244 18 ls (.int j :: .ref t :: st) M x = Rs L xs (d) 244 19 ls (.int (M.1 t j.toNatClampNeg) :: st) M x := by
  have h1 := qx_kd_row (k := 0) (by decide) hk
  exact Rs_unless (qx_ib_not hj) c244_18 (by unfold qx_act; dsimp only; rw [h1]; rfl)
theorem c244_19 : qx_code 244 19 = some (19, .iadd, 20, 0, 0, 0) := by decide +kernel
theorem s244_19 {L : Nat} {xs : Nat → Int32} {d x : Nat} {M : qxM} {st : List Value} {ls : qxL} {z y : Int32} : Rs L xs (d) 244 19 ls (.int y :: .int z :: st) M x = Rs L xs (d) 244 20 ls (.int (z + y) :: st) M x := Rs_next c244_19 rfl
theorem c244_20 : qx_code 244 20 = some (20, .iaload, 21, 0, 0, 0) := by decide +kernel
theorem s244_20 {L : Nat} {xs : Nat → Int32} {d x : Nat} {M : qxM} {st : List Value} {ls : qxL} {t : Nat} {j : Int32} (hk : qx_kd t = 0) (hj : qx_ib j (qx_ln t) = true) : Rs L xs (d) 244 20 ls (.int j :: .ref t :: st) M x = Rs L xs (d) 244 21 ls (.int (M.1 t j.toNatClampNeg) :: st) M x := by
  have h1 := qx_kd_row (k := 0) (by decide) hk
  exact Rs_unless (qx_ib_not hj) c244_20 (by unfold qx_act; dsimp only; rw [h1]; rfl)
theorem c244_21 : qx_code 244 21 = some (21, .ireturn, 22, 0, 0, 0) := by decide +kernel
theorem s244_21 {L : Nat} {xs : Nat → Int32} {d x : Nat} {M : qxM} {ls : qxL} {z : Int32} : Rs L xs (d) 244 21 ls [.int z] M x = some (.inl (some (.int z)), M, x) := Rs_ret c244_21 rfl
theorem c245_0 : qx_code 245 0 = some (0, .iconst 1, 1, 0, 0, 0) := by decide +kernel
theorem s245_0 {L : Nat} {xs : Nat → Int32} {d x : Nat} {M : qxM} {st : List Value} {ls : qxL} : Rs L xs (d) 245 0 ls st M x = Rs L xs (d) 245 1 ls (.int (nI 1) :: st) M x := Rs_next c245_0 rfl
theorem c245_1 : qx_code 245 1 = some (1, .iload_n 1, 2, 0, 0, 0) := by decide +kernel
theorem s245_1 {L : Nat} {xs : Nat → Int32} {d x : Nat} {M : qxM} {st : List Value} {a0 a2 a3 : Option Value} {z : Int32} : Rs L xs (d) 245 1 [a0, some (.int z), a2, a3] st M x = Rs L xs (d) 245 2 [a0, some (.int z), a2, a3] (.int z :: st) M x := Rs_next c245_1 rfl
theorem c245_2 : qx_code 245 2 = some (2, .ishl, 3, 0, 0, 0) := by decide +kernel
theorem s245_2 {L : Nat} {xs : Nat → Int32} {d x : Nat} {M : qxM} {st : List Value} {ls : qxL} {z y : Int32} : Rs L xs (d) 245 2 ls (.int y :: .int z :: st) M x = Rs L xs (d) 245 3 ls (.int (z <<< (y &&& 31)) :: st) M x := Rs_next c245_2 rfl
theorem c245_3 : qx_code 245 3 = some (3, .istore_n 2, 4, 0, 0, 0) := by decide +kernel
theorem s245_3i {L : Nat} {xs : Nat → Int32} {d x : Nat} {M : qxM} {st : List Value} {a0 a2 a3 : Option Value} {z : Int32} {y : Int32} : Rs L xs (d) 245 3 [a0, some (.int y), a2, a3] (.int z :: st) M x = Rs L xs (d) 245 4 [a0, some (.int y), some (.int z), a3] st M x := Rs_next c245_3 rfl
theorem s245_3r {L : Nat} {xs : Nat → Int32} {d x : Nat} {M : qxM} {st : List Value} {a0 a2 a3 : Option Value} {z : Int32} {y : Nat} : Rs L xs (d) 245 3 [a0, some (.ref y), a2, a3] (.int z :: st) M x = Rs L xs (d) 245 4 [a0, some (.ref y), some (.int z), a3] st M x := Rs_next c245_3 rfl
theorem s245_3n {L : Nat} {xs : Nat → Int32} {d x : Nat} {M : qxM} {st : List Value} {a0 a2 a3 : Option Value} {z : Int32} : Rs L xs (d) 245 3 [a0, none, a2, a3] (.int z :: st) M x = Rs L xs (d) 245 4 [a0, none, some (.int z), a3] st M x := Rs_next c245_3 rfl
theorem c245_4 : qx_code 245 4 = some (4, .iload_n 1, 5, 0, 0, 0) := by decide +kernel
theorem s245_4 {L : Nat} {xs : Nat → Int32} {d x : Nat} {M : qxM} {st : List Value} {a0 a2 a3 : Option Value} {z : Int32} : Rs L xs (d) 245 4 [a0, some (.int z), a2, a3] st M x = Rs L xs (d) 245 5 [a0, some (.int z), a2, a3] (.int z :: st) M x := Rs_next c245_4 rfl
theorem c245_5 : qx_code 245 5 = some (5, .istore_n 3, 6, 0, 0, 0) := by decide +kernel
theorem s245_5i {L : Nat} {xs : Nat → Int32} {d x : Nat} {M : qxM} {st : List Value} {a0 a1 a3 : Option Value} {z : Int32} {y : Int32} : Rs L xs (d) 245 5 [a0, a1, some (.int y), a3] (.int z :: st) M x = Rs L xs (d) 245 6 [a0, a1, some (.int y), some (.int z)] st M x := Rs_next c245_5 rfl
theorem s245_5r {L : Nat} {xs : Nat → Int32} {d x : Nat} {M : qxM} {st : List Value} {a0 a1 a3 : Option Value} {z : Int32} {y : Nat} : Rs L xs (d) 245 5 [a0, a1, some (.ref y), a3] (.int z :: st) M x = Rs L xs (d) 245 6 [a0, a1, some (.ref y), some (.int z)] st M x := Rs_next c245_5 rfl
theorem s245_5n {L : Nat} {xs : Nat → Int32} {d x : Nat} {M : qxM} {st : List Value} {a0 a1 a3 : Option Value} {z : Int32} : Rs L xs (d) 245 5 [a0, a1, none, a3] (.int z :: st) M x = Rs L xs (d) 245 6 [a0, a1, none, some (.int z)] st M x := Rs_next c245_5 rfl
theorem c245_6 : qx_code 245 6 = some (6, .iload_n 3, 7, 0, 0, 0) := by decide +kernel
theorem s245_6 {L : Nat} {xs : Nat → Int32} {d x : Nat} {M : qxM} {st : List Value} {a0 a1 a2 : Option Value} {z : Int32} : Rs L xs (d) 245 6 [a0, a1, a2, some (.int z)] st M x = Rs L xs (d) 245 7 [a0, a1, a2, some (.int z)] (.int z :: st) M x := Rs_next c245_6 rfl
theorem c245_7 : qx_code 245 7 = some (7, .aload_n 0, 8, 0, 0, 0) := by decide +kernel
theorem s245_7 {L : Nat} {xs : Nat → Int32} {d x : Nat} {M : qxM} {st : List Value} {a1 a2 a3 : Option Value} {z : Nat} : Rs L xs (d) 245 7 [some (.ref z), a1, a2, a3] st M x = Rs L xs (d) 245 8 [some (.ref z), a1, a2, a3] (.ref z :: st) M x := Rs_next c245_7 rfl
theorem c245_8 : qx_code 245 8 = some (8, .getfield 9, 11, 8, 1, 1546) := by decide +kernel
theorem s245_8 {L : Nat} {xs : Nat → Int32} {d x : Nat} {M : qxM} {st : List Value} {ls : qxL} {t : Nat} (hk : qx_kd t = 18) : Rs L xs (d) 245 8 ls (.ref t :: st) M x = Rs L xs (d) 245 11 ls (.ref (t + 1) :: st) M x := Rs_when (qx_kd_obj (k := 8) (by decide) hk) c245_8 rfl
theorem c245_11 : qx_code 245 11 = some (11, .bipush 36, 13, 0, 0, 0) := by decide +kernel
theorem s245_11 {L : Nat} {xs : Nat → Int32} {d x : Nat} {M : qxM} {st : List Value} {ls : qxL} : Rs L xs (d) 245 11 ls st M x = Rs L xs (d) 245 13 ls (.int (nI 36) :: st) M x := Rs_next c245_11 rfl
theorem c245_13 : qx_code 245 13 = some (13, .iaload, 14, 0, 0, 0) := by decide +kernel
theorem s245_13 {L : Nat} {xs : Nat → Int32} {d x : Nat} {M : qxM} {st : List Value} {ls : qxL} {t : Nat} {j : Int32} (hk : qx_kd t = 0) (hj : qx_ib j (qx_ln t) = true) : Rs L xs (d) 245 13 ls (.int j :: .ref t :: st) M x = Rs L xs (d) 245 14 ls (.int (M.1 t j.toNatClampNeg) :: st) M x := by
  have h1 := qx_kd_row (k := 0) (by decide) hk
  exact Rs_unless (qx_ib_not hj) c245_13 (by unfold qx_act; dsimp only; rw [h1]; rfl)
theorem c245_14 : qx_code 245 14 = some (14, .if_icmp .eq 18, 17, 32, 0, 0) := by decide +kernel
theorem s245_14 {L : Nat} {xs : Nat → Int32} {d x : Nat} {M : qxM} {st : List Value} {ls : qxL} {z y : Int32} : Rs L xs (d) 245 14 ls (.int y :: .int z :: st) M x = if z = y then Rs L xs (d) 245 32 ls st M x else Rs L xs (d) 245 17 ls st M x := Rs_ite c245_14 rfl
theorem c245_17 : qx_code 245 17 = some (17, .aload_n 0, 18, 0, 0, 0) := by decide +kernel
theorem s245_17 {L : Nat} {xs : Nat → Int32} {d x : Nat} {M : qxM} {st : List Value} {a1 a2 a3 : Option Value} {z : Nat} : Rs L xs (d) 245 17 [some (.ref z), a1, a2, a3] st M x = Rs L xs (d) 245 18 [some (.ref z), a1, a2, a3] (.ref z :: st) M x := Rs_next c245_17 rfl
theorem c245_18 : qx_code 245 18 = some (18, .iload_n 3, 19, 0, 0, 0) := by decide +kernel
theorem s245_18 {L : Nat} {xs : Nat → Int32} {d x : Nat} {M : qxM} {st : List Value} {a0 a1 a2 : Option Value} {z : Int32} : Rs L xs (d) 245 18 [a0, a1, a2, some (.int z)] st M x = Rs L xs (d) 245 19 [a0, a1, a2, some (.int z)] (.int z :: st) M x := Rs_next c245_18 rfl
theorem c245_19 : qx_code 245 19 = some (19, .invokevirtual 256, 22, 244, 2, 2109) := by decide +kernel
theorem s245_19 {L : Nat} {xs : Nat → Int32} {d x : Nat} {M : qxM} {st : List Value} {ls : qxL} {t : Nat} {z0 : Int32} (hk : qx_kd t = 18) (hs : st.length ≤ 4) : Rs L xs (d + 1) 245 19 ls (.int z0 :: .ref t :: st) M x = (Rs L xs d 244 0 [some (.ref t), some (.int z0)] [] M 0).bind (qx_kn L xs (d + 1) 245 19 22 244 ls st x) := by
  have h1 : qx_act L xs (qx_rt 245) (19, .invokevirtual 256, 22, 244, 2, 2109) ls (.int z0 :: .ref t :: st) M = if 2 ≤ (.int z0 :: .ref t :: st).length ∧ st.length ≤ 4 then some (.inr (.inr (.inr (244, [.ref t, .int z0], st)))) else none := rfl
  rw [if_pos ⟨by simp [List.length_cons]; try omega, hs⟩] at h1
  have h2 := qx_kd_obj (k := 8) (by decide) hk
  exact Rs_call c245_19 h1 (by rw [show qx_args 244 [.ref t, .int z0] = decide (qx_sh t = some (.inl 8)) from rfl]; exact decide_eq_true h2)
theorem c245_22 : qx_code 245 22 = some (22, .istore_n 3, 23, 0, 0, 0) := by decide +kernel
theorem s245_22i {L : Nat} {xs : Nat → Int32} {d x : Nat} {M : qxM} {st : List Value} {a0 a1 a3 : Option Value} {z : Int32} {y : Int32} : Rs L xs (d) 245 22 [a0, a1, some (.int y), a3] (.int z :: st) M x = Rs L xs (d) 245 23 [a0, a1, some (.int y), some (.int z)] st M x := Rs_next c245_22 rfl
theorem s245_22r {L : Nat} {xs : Nat → Int32} {d x : Nat} {M : qxM} {st : List Value} {a0 a1 a3 : Option Value} {z : Int32} {y : Nat} : Rs L xs (d) 245 22 [a0, a1, some (.ref y), a3] (.int z :: st) M x = Rs L xs (d) 245 23 [a0, a1, some (.ref y), some (.int z)] st M x := Rs_next c245_22 rfl
theorem s245_22n {L : Nat} {xs : Nat → Int32} {d x : Nat} {M : qxM} {st : List Value} {a0 a1 a3 : Option Value} {z : Int32} : Rs L xs (d) 245 22 [a0, a1, none, a3] (.int z :: st) M x = Rs L xs (d) 245 23 [a0, a1, none, some (.int z)] st M x := Rs_next c245_22 rfl
theorem c245_23 : qx_code 245 23 = some (23, .iload_n 2, 24, 0, 0, 0) := by decide +kernel
theorem s245_23 {L : Nat} {xs : Nat → Int32} {d x : Nat} {M : qxM} {st : List Value} {a0 a1 a3 : Option Value} {z : Int32} : Rs L xs (d) 245 23 [a0, a1, some (.int z), a3] st M x = Rs L xs (d) 245 24 [a0, a1, some (.int z), a3] (.int z :: st) M x := Rs_next c245_23 rfl
theorem c245_24 : qx_code 245 24 = some (24, .iconst 1, 25, 0, 0, 0) := by decide +kernel
theorem s245_24 {L : Nat} {xs : Nat → Int32} {d x : Nat} {M : qxM} {st : List Value} {ls : qxL} : Rs L xs (d) 245 24 ls st M x = Rs L xs (d) 245 25 ls (.int (nI 1) :: st) M x := Rs_next c245_24 rfl
theorem c245_25 : qx_code 245 25 = some (25, .iload_n 3, 26, 0, 0, 0) := by decide +kernel
theorem s245_25 {L : Nat} {xs : Nat → Int32} {d x : Nat} {M : qxM} {st : List Value} {a0 a1 a2 : Option Value} {z : Int32} : Rs L xs (d) 245 25 [a0, a1, a2, some (.int z)] st M x = Rs L xs (d) 245 26 [a0, a1, a2, some (.int z)] (.int z :: st) M x := Rs_next c245_25 rfl
theorem c245_26 : qx_code 245 26 = some (26, .ishl, 27, 0, 0, 0) := by decide +kernel
theorem s245_26 {L : Nat} {xs : Nat → Int32} {d x : Nat} {M : qxM} {st : List Value} {ls : qxL} {z y : Int32} : Rs L xs (d) 245 26 ls (.int y :: .int z :: st) M x = Rs L xs (d) 245 27 ls (.int (z <<< (y &&& 31)) :: st) M x := Rs_next c245_26 rfl
theorem c245_27 : qx_code 245 27 = some (27, .ior, 28, 0, 0, 0) := by decide +kernel
theorem s245_27 {L : Nat} {xs : Nat → Int32} {d x : Nat} {M : qxM} {st : List Value} {ls : qxL} {z y : Int32} : Rs L xs (d) 245 27 ls (.int y :: .int z :: st) M x = Rs L xs (d) 245 28 ls (.int (z ||| y) :: st) M x := Rs_next c245_27 rfl
theorem c245_28 : qx_code 245 28 = some (28, .istore_n 2, 29, 0, 0, 0) := by decide +kernel
theorem s245_28i {L : Nat} {xs : Nat → Int32} {d x : Nat} {M : qxM} {st : List Value} {a0 a2 a3 : Option Value} {z : Int32} {y : Int32} : Rs L xs (d) 245 28 [a0, some (.int y), a2, a3] (.int z :: st) M x = Rs L xs (d) 245 29 [a0, some (.int y), some (.int z), a3] st M x := Rs_next c245_28 rfl
theorem s245_28r {L : Nat} {xs : Nat → Int32} {d x : Nat} {M : qxM} {st : List Value} {a0 a2 a3 : Option Value} {z : Int32} {y : Nat} : Rs L xs (d) 245 28 [a0, some (.ref y), a2, a3] (.int z :: st) M x = Rs L xs (d) 245 29 [a0, some (.ref y), some (.int z), a3] st M x := Rs_next c245_28 rfl
theorem s245_28n {L : Nat} {xs : Nat → Int32} {d x : Nat} {M : qxM} {st : List Value} {a0 a2 a3 : Option Value} {z : Int32} : Rs L xs (d) 245 28 [a0, none, a2, a3] (.int z :: st) M x = Rs L xs (d) 245 29 [a0, none, some (.int z), a3] st M x := Rs_next c245_28 rfl
theorem c245_29 : qx_code 245 29 = some (29, .goto (-23), 32, 6, 0, 0) := by decide +kernel
theorem s245_29 {L : Nat} {xs : Nat → Int32} {d x : Nat} {M : qxM} {st : List Value} {ls : qxL} : Rs L xs (d) 245 29 ls st M x = Rs L xs (d) 245 6 ls st M x := Rs_next c245_29 rfl
theorem c245_32 : qx_code 245 32 = some (32, .iload_n 2, 33, 0, 0, 0) := by decide +kernel
theorem s245_32 {L : Nat} {xs : Nat → Int32} {d x : Nat} {M : qxM} {st : List Value} {a0 a1 a3 : Option Value} {z : Int32} : Rs L xs (d) 245 32 [a0, a1, some (.int z), a3] st M x = Rs L xs (d) 245 33 [a0, a1, some (.int z), a3] (.int z :: st) M x := Rs_next c245_32 rfl
theorem c245_33 : qx_code 245 33 = some (33, .ireturn, 34, 0, 0, 0) := by decide +kernel
theorem s245_33 {L : Nat} {xs : Nat → Int32} {d x : Nat} {M : qxM} {ls : qxL} {z : Int32} : Rs L xs (d) 245 33 ls [.int z] M x = some (.inl (some (.int z)), M, x) := Rs_ret c245_33 rfl
theorem c246_0 : qx_code 246 0 = some (0, .iconst 0, 1, 0, 0, 0) := by decide +kernel
theorem s246_0 {L : Nat} {xs : Nat → Int32} {d x : Nat} {M : qxM} {st : List Value} {ls : qxL} : Rs L xs (d) 246 0 ls st M x = Rs L xs (d) 246 1 ls (.int (nI 0) :: st) M x := Rs_next c246_0 rfl
theorem c246_1 : qx_code 246 1 = some (1, .istore 4, 3, 0, 0, 0) := by decide +kernel
theorem s246_1i {L : Nat} {xs : Nat → Int32} {d x : Nat} {M : qxM} {st : List Value} {a0 a1 a2 a4 a5 a6 a7 : Option Value} {z : Int32} {y : Int32} : Rs L xs (d) 246 1 [a0, a1, a2, some (.int y), a4, a5, a6, a7] (.int z :: st) M x = Rs L xs (d) 246 3 [a0, a1, a2, some (.int y), some (.int z), a5, a6, a7] st M x := Rs_next c246_1 rfl
theorem s246_1r {L : Nat} {xs : Nat → Int32} {d x : Nat} {M : qxM} {st : List Value} {a0 a1 a2 a4 a5 a6 a7 : Option Value} {z : Int32} {y : Nat} : Rs L xs (d) 246 1 [a0, a1, a2, some (.ref y), a4, a5, a6, a7] (.int z :: st) M x = Rs L xs (d) 246 3 [a0, a1, a2, some (.ref y), some (.int z), a5, a6, a7] st M x := Rs_next c246_1 rfl
theorem s246_1n {L : Nat} {xs : Nat → Int32} {d x : Nat} {M : qxM} {st : List Value} {a0 a1 a2 a4 a5 a6 a7 : Option Value} {z : Int32} : Rs L xs (d) 246 1 [a0, a1, a2, none, a4, a5, a6, a7] (.int z :: st) M x = Rs L xs (d) 246 3 [a0, a1, a2, none, some (.int z), a5, a6, a7] st M x := Rs_next c246_1 rfl
theorem c246_3 : qx_code 246 3 = some (3, .aload_n 0, 4, 0, 0, 0) := by decide +kernel
theorem s246_3 {L : Nat} {xs : Nat → Int32} {d x : Nat} {M : qxM} {st : List Value} {a1 a2 a3 a4 a5 a6 a7 : Option Value} {z : Nat} : Rs L xs (d) 246 3 [some (.ref z), a1, a2, a3, a4, a5, a6, a7] st M x = Rs L xs (d) 246 4 [some (.ref z), a1, a2, a3, a4, a5, a6, a7] (.ref z :: st) M x := Rs_next c246_3 rfl
theorem c246_4 : qx_code 246 4 = some (4, .getfield 9, 7, 8, 1, 1546) := by decide +kernel
theorem s246_4 {L : Nat} {xs : Nat → Int32} {d x : Nat} {M : qxM} {st : List Value} {ls : qxL} {t : Nat} (hk : qx_kd t = 18) : Rs L xs (d) 246 4 ls (.ref t :: st) M x = Rs L xs (d) 246 7 ls (.ref (t + 1) :: st) M x := Rs_when (qx_kd_obj (k := 8) (by decide) hk) c246_4 rfl
theorem c246_7 : qx_code 246 7 = some (7, .bipush 69, 9, 0, 0, 0) := by decide +kernel
theorem s246_7 {L : Nat} {xs : Nat → Int32} {d x : Nat} {M : qxM} {st : List Value} {ls : qxL} : Rs L xs (d) 246 7 ls st M x = Rs L xs (d) 246 9 ls (.int (nI 69) :: st) M x := Rs_next c246_7 rfl
theorem c246_9 : qx_code 246 9 = some (9, .iload_n 1, 10, 0, 0, 0) := by decide +kernel
theorem s246_9 {L : Nat} {xs : Nat → Int32} {d x : Nat} {M : qxM} {st : List Value} {a0 a2 a3 a4 a5 a6 a7 : Option Value} {z : Int32} : Rs L xs (d) 246 9 [a0, some (.int z), a2, a3, a4, a5, a6, a7] st M x = Rs L xs (d) 246 10 [a0, some (.int z), a2, a3, a4, a5, a6, a7] (.int z :: st) M x := Rs_next c246_9 rfl
theorem c246_10 : qx_code 246 10 = some (10, .iadd, 11, 0, 0, 0) := by decide +kernel
theorem s246_10 {L : Nat} {xs : Nat → Int32} {d x : Nat} {M : qxM} {st : List Value} {ls : qxL} {z y : Int32} : Rs L xs (d) 246 10 ls (.int y :: .int z :: st) M x = Rs L xs (d) 246 11 ls (.int (z + y) :: st) M x := Rs_next c246_10 rfl
theorem c246_11 : qx_code 246 11 = some (11, .iaload, 12, 0, 0, 0) := by decide +kernel
theorem s246_11 {L : Nat} {xs : Nat → Int32} {d x : Nat} {M : qxM} {st : List Value} {ls : qxL} {t : Nat} {j : Int32} (hk : qx_kd t = 0) (hj : qx_ib j (qx_ln t) = true) : Rs L xs (d) 246 11 ls (.int j :: .ref t :: st) M x = Rs L xs (d) 246 12 ls (.int (M.1 t j.toNatClampNeg) :: st) M x := by
  have h1 := qx_kd_row (k := 0) (by decide) hk
  exact Rs_unless (qx_ib_not hj) c246_11 (by unfold qx_act; dsimp only; rw [h1]; rfl)
theorem c246_12 : qx_code 246 12 = some (12, .istore 5, 14, 0, 0, 0) := by decide +kernel
theorem s246_12i {L : Nat} {xs : Nat → Int32} {d x : Nat} {M : qxM} {st : List Value} {a0 a1 a2 a3 a5 a6 a7 : Option Value} {z : Int32} {y : Int32} : Rs L xs (d) 246 12 [a0, a1, a2, a3, some (.int y), a5, a6, a7] (.int z :: st) M x = Rs L xs (d) 246 14 [a0, a1, a2, a3, some (.int y), some (.int z), a6, a7] st M x := Rs_next c246_12 rfl
theorem s246_12r {L : Nat} {xs : Nat → Int32} {d x : Nat} {M : qxM} {st : List Value} {a0 a1 a2 a3 a5 a6 a7 : Option Value} {z : Int32} {y : Nat} : Rs L xs (d) 246 12 [a0, a1, a2, a3, some (.ref y), a5, a6, a7] (.int z :: st) M x = Rs L xs (d) 246 14 [a0, a1, a2, a3, some (.ref y), some (.int z), a6, a7] st M x := Rs_next c246_12 rfl
theorem s246_12n {L : Nat} {xs : Nat → Int32} {d x : Nat} {M : qxM} {st : List Value} {a0 a1 a2 a3 a5 a6 a7 : Option Value} {z : Int32} : Rs L xs (d) 246 12 [a0, a1, a2, a3, none, a5, a6, a7] (.int z :: st) M x = Rs L xs (d) 246 14 [a0, a1, a2, a3, none, some (.int z), a6, a7] st M x := Rs_next c246_12 rfl
theorem c246_14 : qx_code 246 14 = some (14, .iload 5, 16, 0, 0, 0) := by decide +kernel
theorem s246_14 {L : Nat} {xs : Nat → Int32} {d x : Nat} {M : qxM} {st : List Value} {a0 a1 a2 a3 a4 a6 a7 : Option Value} {z : Int32} : Rs L xs (d) 246 14 [a0, a1, a2, a3, a4, some (.int z), a6, a7] st M x = Rs L xs (d) 246 16 [a0, a1, a2, a3, a4, some (.int z), a6, a7] (.int z :: st) M x := Rs_next c246_14 rfl
theorem c246_16 : qx_code 246 16 = some (16, .iload_n 3, 17, 0, 0, 0) := by decide +kernel
theorem s246_16 {L : Nat} {xs : Nat → Int32} {d x : Nat} {M : qxM} {st : List Value} {a0 a1 a2 a4 a5 a6 a7 : Option Value} {z : Int32} : Rs L xs (d) 246 16 [a0, a1, a2, some (.int z), a4, a5, a6, a7] st M x = Rs L xs (d) 246 17 [a0, a1, a2, some (.int z), a4, a5, a6, a7] (.int z :: st) M x := Rs_next c246_16 rfl
theorem c246_17 : qx_code 246 17 = some (17, .if_icmp .eq 105, 20, 122, 0, 0) := by decide +kernel
theorem s246_17 {L : Nat} {xs : Nat → Int32} {d x : Nat} {M : qxM} {st : List Value} {ls : qxL} {z y : Int32} : Rs L xs (d) 246 17 ls (.int y :: .int z :: st) M x = if z = y then Rs L xs (d) 246 122 ls st M x else Rs L xs (d) 246 20 ls st M x := Rs_ite c246_17 rfl
theorem c246_20 : qx_code 246 20 = some (20, .aload_n 0, 21, 0, 0, 0) := by decide +kernel
theorem s246_20 {L : Nat} {xs : Nat → Int32} {d x : Nat} {M : qxM} {st : List Value} {a1 a2 a3 a4 a5 a6 a7 : Option Value} {z : Nat} : Rs L xs (d) 246 20 [some (.ref z), a1, a2, a3, a4, a5, a6, a7] st M x = Rs L xs (d) 246 21 [some (.ref z), a1, a2, a3, a4, a5, a6, a7] (.ref z :: st) M x := Rs_next c246_20 rfl
theorem c246_21 : qx_code 246 21 = some (21, .iload 5, 23, 0, 0, 0) := by decide +kernel
theorem s246_21 {L : Nat} {xs : Nat → Int32} {d x : Nat} {M : qxM} {st : List Value} {a0 a1 a2 a3 a4 a6 a7 : Option Value} {z : Int32} : Rs L xs (d) 246 21 [a0, a1, a2, a3, a4, some (.int z), a6, a7] st M x = Rs L xs (d) 246 23 [a0, a1, a2, a3, a4, some (.int z), a6, a7] (.int z :: st) M x := Rs_next c246_21 rfl
theorem c246_23 : qx_code 246 23 = some (23, .invokevirtual 132, 26, 213, 2, 1737) := by decide +kernel
theorem s246_23 {L : Nat} {xs : Nat → Int32} {d x : Nat} {M : qxM} {st : List Value} {ls : qxL} {t : Nat} {z0 : Int32} (hk : qx_kd t = 18) (hs : st.length ≤ 4) : Rs L xs (d + 1) 246 23 ls (.int z0 :: .ref t :: st) M x = (Rs L xs d 213 0 [some (.ref t), some (.int z0)] [] M 0).bind (qx_kn L xs (d + 1) 246 23 26 213 ls st x) := by
  have h1 : qx_act L xs (qx_rt 246) (23, .invokevirtual 132, 26, 213, 2, 1737) ls (.int z0 :: .ref t :: st) M = if 2 ≤ (.int z0 :: .ref t :: st).length ∧ st.length ≤ 4 then some (.inr (.inr (.inr (213, [.ref t, .int z0], st)))) else none := rfl
  rw [if_pos ⟨by simp [List.length_cons]; try omega, hs⟩] at h1
  have h2 := qx_kd_obj (k := 8) (by decide) hk
  exact Rs_call c246_23 h1 (by rw [show qx_args 213 [.ref t, .int z0] = decide (qx_sh t = some (.inl 8)) from rfl]; exact decide_eq_true h2)
theorem c246_26 : qx_code 246 26 = some (26, .istore 6, 28, 0, 0, 0) := by decide +kernel
theorem s246_26i {L : Nat} {xs : Nat → Int32} {d x : Nat} {M : qxM} {st : List Value} {a0 a1 a2 a3 a4 a6 a7 : Option Value} {z : Int32} {y : Int32} : Rs L xs (d) 246 26 [a0, a1, a2, a3, a4, some (.int y), a6, a7] (.int z :: st) M x = Rs L xs (d) 246 28 [a0, a1, a2, a3, a4, some (.int y), some (.int z), a7] st M x := Rs_next c246_26 rfl
theorem s246_26r {L : Nat} {xs : Nat → Int32} {d x : Nat} {M : qxM} {st : List Value} {a0 a1 a2 a3 a4 a6 a7 : Option Value} {z : Int32} {y : Nat} : Rs L xs (d) 246 26 [a0, a1, a2, a3, a4, some (.ref y), a6, a7] (.int z :: st) M x = Rs L xs (d) 246 28 [a0, a1, a2, a3, a4, some (.ref y), some (.int z), a7] st M x := Rs_next c246_26 rfl
theorem s246_26n {L : Nat} {xs : Nat → Int32} {d x : Nat} {M : qxM} {st : List Value} {a0 a1 a2 a3 a4 a6 a7 : Option Value} {z : Int32} : Rs L xs (d) 246 26 [a0, a1, a2, a3, a4, none, a6, a7] (.int z :: st) M x = Rs L xs (d) 246 28 [a0, a1, a2, a3, a4, none, some (.int z), a7] st M x := Rs_next c246_26 rfl
theorem c246_28 : qx_code 246 28 = some (28, .aload_n 0, 29, 0, 0, 0) := by decide +kernel
theorem s246_28 {L : Nat} {xs : Nat → Int32} {d x : Nat} {M : qxM} {st : List Value} {a1 a2 a3 a4 a5 a6 a7 : Option Value} {z : Nat} : Rs L xs (d) 246 28 [some (.ref z), a1, a2, a3, a4, a5, a6, a7] st M x = Rs L xs (d) 246 29 [some (.ref z), a1, a2, a3, a4, a5, a6, a7] (.ref z :: st) M x := Rs_next c246_28 rfl
theorem c246_29 : qx_code 246 29 = some (29, .getfield 9, 32, 8, 1, 1546) := by decide +kernel
theorem s246_29 {L : Nat} {xs : Nat → Int32} {d x : Nat} {M : qxM} {st : List Value} {ls : qxL} {t : Nat} (hk : qx_kd t = 18) : Rs L xs (d) 246 29 ls (.ref t :: st) M x = Rs L xs (d) 246 32 ls (.ref (t + 1) :: st) M x := Rs_when (qx_kd_obj (k := 8) (by decide) hk) c246_29 rfl
theorem c246_32 : qx_code 246 32 = some (32, .bipush 97, 34, 0, 0, 0) := by decide +kernel
theorem s246_32 {L : Nat} {xs : Nat → Int32} {d x : Nat} {M : qxM} {st : List Value} {ls : qxL} : Rs L xs (d) 246 32 ls st M x = Rs L xs (d) 246 34 ls (.int (nI 97) :: st) M x := Rs_next c246_32 rfl
theorem c246_34 : qx_code 246 34 = some (34, .iload 6, 36, 0, 0, 0) := by decide +kernel
theorem s246_34 {L : Nat} {xs : Nat → Int32} {d x : Nat} {M : qxM} {st : List Value} {a0 a1 a2 a3 a4 a5 a7 : Option Value} {z : Int32} : Rs L xs (d) 246 34 [a0, a1, a2, a3, a4, a5, some (.int z), a7] st M x = Rs L xs (d) 246 36 [a0, a1, a2, a3, a4, a5, some (.int z), a7] (.int z :: st) M x := Rs_next c246_34 rfl
theorem c246_36 : qx_code 246 36 = some (36, .iadd, 37, 0, 0, 0) := by decide +kernel
theorem s246_36 {L : Nat} {xs : Nat → Int32} {d x : Nat} {M : qxM} {st : List Value} {ls : qxL} {z y : Int32} : Rs L xs (d) 246 36 ls (.int y :: .int z :: st) M x = Rs L xs (d) 246 37 ls (.int (z + y) :: st) M x := Rs_next c246_36 rfl
theorem c246_37 : qx_code 246 37 = some (37, .iload_n 1, 38, 0, 0, 0) := by decide +kernel
theorem s246_37 {L : Nat} {xs : Nat → Int32} {d x : Nat} {M : qxM} {st : List Value} {a0 a2 a3 a4 a5 a6 a7 : Option Value} {z : Int32} : Rs L xs (d) 246 37 [a0, some (.int z), a2, a3, a4, a5, a6, a7] st M x = Rs L xs (d) 246 38 [a0, some (.int z), a2, a3, a4, a5, a6, a7] (.int z :: st) M x := Rs_next c246_37 rfl
theorem c246_38 : qx_code 246 38 = some (38, .iastore, 39, 0, 0, 0) := by decide +kernel
theorem s246_38 {L : Nat} {xs : Nat → Int32} {d x : Nat} {M : qxM} {st : List Value} {ls : qxL} {t : Nat} {j : Int32} {z : Int32} (hk : qx_kd t = 0) (hj : qx_ib j (qx_ln t) = true) : Rs L xs (d) 246 38 ls (.int z :: .int j :: .ref t :: st) M x = Rs L xs (d) 246 39 ls st (qx_up M t j.toNatClampNeg z) x := by
  have h1 := qx_kd_row (k := 0) (by decide) hk
  exact Rs_unless (qx_ib_not hj) c246_38 (by unfold qx_act; dsimp only; rw [h1]; rfl)
theorem c246_39 : qx_code 246 39 = some (39, .aload_n 0, 40, 0, 0, 0) := by decide +kernel
theorem s246_39 {L : Nat} {xs : Nat → Int32} {d x : Nat} {M : qxM} {st : List Value} {a1 a2 a3 a4 a5 a6 a7 : Option Value} {z : Nat} : Rs L xs (d) 246 39 [some (.ref z), a1, a2, a3, a4, a5, a6, a7] st M x = Rs L xs (d) 246 40 [some (.ref z), a1, a2, a3, a4, a5, a6, a7] (.ref z :: st) M x := Rs_next c246_39 rfl
theorem c246_40 : qx_code 246 40 = some (40, .getfield 9, 43, 8, 1, 1546) := by decide +kernel
theorem s246_40 {L : Nat} {xs : Nat → Int32} {d x : Nat} {M : qxM} {st : List Value} {ls : qxL} {t : Nat} (hk : qx_kd t = 18) : Rs L xs (d) 246 40 ls (.ref t :: st) M x = Rs L xs (d) 246 43 ls (.ref (t + 1) :: st) M x := Rs_when (qx_kd_obj (k := 8) (by decide) hk) c246_40 rfl
theorem c246_43 : qx_code 246 43 = some (43, .bipush 111, 45, 0, 0, 0) := by decide +kernel
theorem s246_43 {L : Nat} {xs : Nat → Int32} {d x : Nat} {M : qxM} {st : List Value} {ls : qxL} : Rs L xs (d) 246 43 ls st M x = Rs L xs (d) 246 45 ls (.int (nI 111) :: st) M x := Rs_next c246_43 rfl
theorem c246_45 : qx_code 246 45 = some (45, .iload 6, 47, 0, 0, 0) := by decide +kernel
theorem s246_45 {L : Nat} {xs : Nat → Int32} {d x : Nat} {M : qxM} {st : List Value} {a0 a1 a2 a3 a4 a5 a7 : Option Value} {z : Int32} : Rs L xs (d) 246 45 [a0, a1, a2, a3, a4, a5, some (.int z), a7] st M x = Rs L xs (d) 246 47 [a0, a1, a2, a3, a4, a5, some (.int z), a7] (.int z :: st) M x := Rs_next c246_45 rfl
theorem c246_47 : qx_code 246 47 = some (47, .iadd, 48, 0, 0, 0) := by decide +kernel
theorem s246_47 {L : Nat} {xs : Nat → Int32} {d x : Nat} {M : qxM} {st : List Value} {ls : qxL} {z y : Int32} : Rs L xs (d) 246 47 ls (.int y :: .int z :: st) M x = Rs L xs (d) 246 48 ls (.int (z + y) :: st) M x := Rs_next c246_47 rfl
theorem c246_48 : qx_code 246 48 = some (48, .iload_n 2, 49, 0, 0, 0) := by decide +kernel
theorem s246_48 {L : Nat} {xs : Nat → Int32} {d x : Nat} {M : qxM} {st : List Value} {a0 a1 a3 a4 a5 a6 a7 : Option Value} {z : Int32} : Rs L xs (d) 246 48 [a0, a1, some (.int z), a3, a4, a5, a6, a7] st M x = Rs L xs (d) 246 49 [a0, a1, some (.int z), a3, a4, a5, a6, a7] (.int z :: st) M x := Rs_next c246_48 rfl
theorem c246_49 : qx_code 246 49 = some (49, .iastore, 50, 0, 0, 0) := by decide +kernel
theorem s246_49 {L : Nat} {xs : Nat → Int32} {d x : Nat} {M : qxM} {st : List Value} {ls : qxL} {t : Nat} {j : Int32} {z : Int32} (hk : qx_kd t = 0) (hj : qx_ib j (qx_ln t) = true) : Rs L xs (d) 246 49 ls (.int z :: .int j :: .ref t :: st) M x = Rs L xs (d) 246 50 ls st (qx_up M t j.toNatClampNeg z) x := by
  have h1 := qx_kd_row (k := 0) (by decide) hk
  exact Rs_unless (qx_ib_not hj) c246_49 (by unfold qx_act; dsimp only; rw [h1]; rfl)
theorem c246_50 : qx_code 246 50 = some (50, .iconst 0, 51, 0, 0, 0) := by decide +kernel
theorem s246_50 {L : Nat} {xs : Nat → Int32} {d x : Nat} {M : qxM} {st : List Value} {ls : qxL} : Rs L xs (d) 246 50 ls st M x = Rs L xs (d) 246 51 ls (.int (nI 0) :: st) M x := Rs_next c246_50 rfl
theorem c246_51 : qx_code 246 51 = some (51, .istore 7, 53, 0, 0, 0) := by decide +kernel
theorem s246_51i {L : Nat} {xs : Nat → Int32} {d x : Nat} {M : qxM} {st : List Value} {a0 a1 a2 a3 a4 a5 a7 : Option Value} {z : Int32} {y : Int32} : Rs L xs (d) 246 51 [a0, a1, a2, a3, a4, a5, some (.int y), a7] (.int z :: st) M x = Rs L xs (d) 246 53 [a0, a1, a2, a3, a4, a5, some (.int y), some (.int z)] st M x := Rs_next c246_51 rfl
theorem s246_51r {L : Nat} {xs : Nat → Int32} {d x : Nat} {M : qxM} {st : List Value} {a0 a1 a2 a3 a4 a5 a7 : Option Value} {z : Int32} {y : Nat} : Rs L xs (d) 246 51 [a0, a1, a2, a3, a4, a5, some (.ref y), a7] (.int z :: st) M x = Rs L xs (d) 246 53 [a0, a1, a2, a3, a4, a5, some (.ref y), some (.int z)] st M x := Rs_next c246_51 rfl
theorem s246_51n {L : Nat} {xs : Nat → Int32} {d x : Nat} {M : qxM} {st : List Value} {a0 a1 a2 a3 a4 a5 a7 : Option Value} {z : Int32} : Rs L xs (d) 246 51 [a0, a1, a2, a3, a4, a5, none, a7] (.int z :: st) M x = Rs L xs (d) 246 53 [a0, a1, a2, a3, a4, a5, none, some (.int z)] st M x := Rs_next c246_51 rfl
theorem c246_53 : qx_code 246 53 = some (53, .aload_n 0, 54, 0, 0, 0) := by decide +kernel
theorem s246_53 {L : Nat} {xs : Nat → Int32} {d x : Nat} {M : qxM} {st : List Value} {a1 a2 a3 a4 a5 a6 a7 : Option Value} {z : Nat} : Rs L xs (d) 246 53 [some (.ref z), a1, a2, a3, a4, a5, a6, a7] st M x = Rs L xs (d) 246 54 [some (.ref z), a1, a2, a3, a4, a5, a6, a7] (.ref z :: st) M x := Rs_next c246_53 rfl
theorem c246_54 : qx_code 246 54 = some (54, .iload_n 1, 55, 0, 0, 0) := by decide +kernel
theorem s246_54 {L : Nat} {xs : Nat → Int32} {d x : Nat} {M : qxM} {st : List Value} {a0 a2 a3 a4 a5 a6 a7 : Option Value} {z : Int32} : Rs L xs (d) 246 54 [a0, some (.int z), a2, a3, a4, a5, a6, a7] st M x = Rs L xs (d) 246 55 [a0, some (.int z), a2, a3, a4, a5, a6, a7] (.int z :: st) M x := Rs_next c246_54 rfl
theorem c246_55 : qx_code 246 55 = some (55, .iload 7, 57, 0, 0, 0) := by decide +kernel
theorem s246_55 {L : Nat} {xs : Nat → Int32} {d x : Nat} {M : qxM} {st : List Value} {a0 a1 a2 a3 a4 a5 a6 : Option Value} {z : Int32} : Rs L xs (d) 246 55 [a0, a1, a2, a3, a4, a5, a6, some (.int z)] st M x = Rs L xs (d) 246 57 [a0, a1, a2, a3, a4, a5, a6, some (.int z)] (.int z :: st) M x := Rs_next c246_55 rfl
theorem c246_57 : qx_code 246 57 = some (57, .invokevirtual 241, 60, 235, 3, 1910) := by decide +kernel
theorem s246_57 {L : Nat} {xs : Nat → Int32} {d x : Nat} {M : qxM} {st : List Value} {ls : qxL} {t : Nat} {z0 : Int32} {z1 : Int32} (hk : qx_kd t = 18) (hs : st.length ≤ 4) : Rs L xs (d + 1) 246 57 ls (.int z1 :: .int z0 :: .ref t :: st) M x = (Rs L xs d 235 0 [some (.ref t), some (.int z0), some (.int z1)] [] M 0).bind (qx_kn L xs (d + 1) 246 57 60 235 ls st x) := by
  have h1 : qx_act L xs (qx_rt 246) (57, .invokevirtual 241, 60, 235, 3, 1910) ls (.int z1 :: .int z0 :: .ref t :: st) M = if 3 ≤ (.int z1 :: .int z0 :: .ref t :: st).length ∧ st.length ≤ 4 then some (.inr (.inr (.inr (235, [.ref t, .int z0, .int z1], st)))) else none := rfl
  rw [if_pos ⟨by simp [List.length_cons]; try omega, hs⟩] at h1
  have h2 := qx_kd_obj (k := 8) (by decide) hk
  exact Rs_call c246_57 h1 (by rw [show qx_args 235 [.ref t, .int z0, .int z1] = decide (qx_sh t = some (.inl 8)) from rfl]; exact decide_eq_true h2)
theorem c246_60 : qx_code 246 60 = some (60, .iload 6, 62, 0, 0, 0) := by decide +kernel
theorem s246_60 {L : Nat} {xs : Nat → Int32} {d x : Nat} {M : qxM} {st : List Value} {a0 a1 a2 a3 a4 a5 a7 : Option Value} {z : Int32} : Rs L xs (d) 246 60 [a0, a1, a2, a3, a4, a5, some (.int z), a7] st M x = Rs L xs (d) 246 62 [a0, a1, a2, a3, a4, a5, some (.int z), a7] (.int z :: st) M x := Rs_next c246_60 rfl
theorem c246_62 : qx_code 246 62 = some (62, .if_icmp .eq 9, 65, 71, 0, 0) := by decide +kernel
theorem s246_62 {L : Nat} {xs : Nat → Int32} {d x : Nat} {M : qxM} {st : List Value} {ls : qxL} {z y : Int32} : Rs L xs (d) 246 62 ls (.int y :: .int z :: st) M x = if z = y then Rs L xs (d) 246 71 ls st M x else Rs L xs (d) 246 65 ls st M x := Rs_ite c246_62 rfl
theorem c246_65 : qx_code 246 65 = some (65, .iinc 7 1, 68, 0, 0, 0) := by decide +kernel
theorem s246_65i {L : Nat} {xs : Nat → Int32} {d x : Nat} {M : qxM} {st : List Value} {a0 a1 a2 a3 a4 a5 : Option Value} {z : Int32} {y : Int32} : Rs L xs (d) 246 65 [a0, a1, a2, a3, a4, a5, some (.int y), some (.int z)] st M x = Rs L xs (d) 246 68 [a0, a1, a2, a3, a4, a5, some (.int y), some (.int (z + (nI 1)))] st M x := Rs_next c246_65 rfl
theorem s246_65r {L : Nat} {xs : Nat → Int32} {d x : Nat} {M : qxM} {st : List Value} {a0 a1 a2 a3 a4 a5 : Option Value} {z : Int32} {y : Nat} : Rs L xs (d) 246 65 [a0, a1, a2, a3, a4, a5, some (.ref y), some (.int z)] st M x = Rs L xs (d) 246 68 [a0, a1, a2, a3, a4, a5, some (.ref y), some (.int (z + (nI 1)))] st M x := Rs_next c246_65 rfl
theorem s246_65n {L : Nat} {xs : Nat → Int32} {d x : Nat} {M : qxM} {st : List Value} {a0 a1 a2 a3 a4 a5 : Option Value} {z : Int32} : Rs L xs (d) 246 65 [a0, a1, a2, a3, a4, a5, none, some (.int z)] st M x = Rs L xs (d) 246 68 [a0, a1, a2, a3, a4, a5, none, some (.int (z + (nI 1)))] st M x := Rs_next c246_65 rfl
theorem c246_68 : qx_code 246 68 = some (68, .goto (-15), 71, 53, 0, 0) := by decide +kernel
theorem s246_68 {L : Nat} {xs : Nat → Int32} {d x : Nat} {M : qxM} {st : List Value} {ls : qxL} : Rs L xs (d) 246 68 ls st M x = Rs L xs (d) 246 53 ls st M x := Rs_next c246_68 rfl
theorem c246_71 : qx_code 246 71 = some (71, .iload 7, 73, 0, 0, 0) := by decide +kernel
theorem s246_71 {L : Nat} {xs : Nat → Int32} {d x : Nat} {M : qxM} {st : List Value} {a0 a1 a2 a3 a4 a5 a6 : Option Value} {z : Int32} : Rs L xs (d) 246 71 [a0, a1, a2, a3, a4, a5, a6, some (.int z)] st M x = Rs L xs (d) 246 73 [a0, a1, a2, a3, a4, a5, a6, some (.int z)] (.int z :: st) M x := Rs_next c246_71 rfl
theorem c246_73 : qx_code 246 73 = some (73, .ifCond .lt 22, 76, 95, 0, 0) := by decide +kernel
theorem s246_73 {L : Nat} {xs : Nat → Int32} {d x : Nat} {M : qxM} {st : List Value} {ls : qxL} {z : Int32} : Rs L xs (d) 246 73 ls (.int z :: st) M x = if z < 0 then Rs L xs (d) 246 95 ls st M x else Rs L xs (d) 246 76 ls st M x := Rs_ite c246_73 rfl
theorem c246_76 : qx_code 246 76 = some (76, .aload_n 0, 77, 0, 0, 0) := by decide +kernel
theorem s246_76 {L : Nat} {xs : Nat → Int32} {d x : Nat} {M : qxM} {st : List Value} {a1 a2 a3 a4 a5 a6 a7 : Option Value} {z : Nat} : Rs L xs (d) 246 76 [some (.ref z), a1, a2, a3, a4, a5, a6, a7] st M x = Rs L xs (d) 246 77 [some (.ref z), a1, a2, a3, a4, a5, a6, a7] (.ref z :: st) M x := Rs_next c246_76 rfl
theorem c246_77 : qx_code 246 77 = some (77, .iload 6, 79, 0, 0, 0) := by decide +kernel
theorem s246_77 {L : Nat} {xs : Nat → Int32} {d x : Nat} {M : qxM} {st : List Value} {a0 a1 a2 a3 a4 a5 a7 : Option Value} {z : Int32} : Rs L xs (d) 246 77 [a0, a1, a2, a3, a4, a5, some (.int z), a7] st M x = Rs L xs (d) 246 79 [a0, a1, a2, a3, a4, a5, some (.int z), a7] (.int z :: st) M x := Rs_next c246_77 rfl
theorem c246_79 : qx_code 246 79 = some (79, .aload_n 0, 80, 0, 0, 0) := by decide +kernel
theorem s246_79 {L : Nat} {xs : Nat → Int32} {d x : Nat} {M : qxM} {st : List Value} {a1 a2 a3 a4 a5 a6 a7 : Option Value} {z : Nat} : Rs L xs (d) 246 79 [some (.ref z), a1, a2, a3, a4, a5, a6, a7] st M x = Rs L xs (d) 246 80 [some (.ref z), a1, a2, a3, a4, a5, a6, a7] (.ref z :: st) M x := Rs_next c246_79 rfl
theorem c246_80 : qx_code 246 80 = some (80, .iload_n 1, 81, 0, 0, 0) := by decide +kernel
theorem s246_80 {L : Nat} {xs : Nat → Int32} {d x : Nat} {M : qxM} {st : List Value} {a0 a2 a3 a4 a5 a6 a7 : Option Value} {z : Int32} : Rs L xs (d) 246 80 [a0, some (.int z), a2, a3, a4, a5, a6, a7] st M x = Rs L xs (d) 246 81 [a0, some (.int z), a2, a3, a4, a5, a6, a7] (.int z :: st) M x := Rs_next c246_80 rfl
theorem c246_81 : qx_code 246 81 = some (81, .iload 7, 83, 0, 0, 0) := by decide +kernel
theorem s246_81 {L : Nat} {xs : Nat → Int32} {d x : Nat} {M : qxM} {st : List Value} {a0 a1 a2 a3 a4 a5 a6 : Option Value} {z : Int32} : Rs L xs (d) 246 81 [a0, a1, a2, a3, a4, a5, a6, some (.int z)] st M x = Rs L xs (d) 246 83 [a0, a1, a2, a3, a4, a5, a6, some (.int z)] (.int z :: st) M x := Rs_next c246_81 rfl
theorem c246_83 : qx_code 246 83 = some (83, .invokevirtual 241, 86, 235, 3, 1910) := by decide +kernel
theorem s246_83 {L : Nat} {xs : Nat → Int32} {d x : Nat} {M : qxM} {st : List Value} {ls : qxL} {t : Nat} {z0 : Int32} {z1 : Int32} (hk : qx_kd t = 18) (hs : st.length ≤ 4) : Rs L xs (d + 1) 246 83 ls (.int z1 :: .int z0 :: .ref t :: st) M x = (Rs L xs d 235 0 [some (.ref t), some (.int z0), some (.int z1)] [] M 0).bind (qx_kn L xs (d + 1) 246 83 86 235 ls st x) := by
  have h1 : qx_act L xs (qx_rt 246) (83, .invokevirtual 241, 86, 235, 3, 1910) ls (.int z1 :: .int z0 :: .ref t :: st) M = if 3 ≤ (.int z1 :: .int z0 :: .ref t :: st).length ∧ st.length ≤ 4 then some (.inr (.inr (.inr (235, [.ref t, .int z0, .int z1], st)))) else none := rfl
  rw [if_pos ⟨by simp [List.length_cons]; try omega, hs⟩] at h1
  have h2 := qx_kd_obj (k := 8) (by decide) hk
  exact Rs_call c246_83 h1 (by rw [show qx_args 235 [.ref t, .int z0, .int z1] = decide (qx_sh t = some (.inl 8)) from rfl]; exact decide_eq_true h2)
theorem c246_86 : qx_code 246 86 = some (86, .invokevirtual 244, 89, 236, 3, 2081) := by decide +kernel
theorem s246_86 {L : Nat} {xs : Nat → Int32} {d x : Nat} {M : qxM} {st : List Value} {ls : qxL} {t : Nat} {z0 : Int32} {z1 : Int32} (hk : qx_kd t = 18) (hs : st.length ≤ 4) : Rs L xs (d + 1) 246 86 ls (.int z1 :: .int z0 :: .ref t :: st) M x = (Rs L xs d 236 0 [some (.ref t), some (.int z0), some (.int z1)] [] M 0).bind (qx_kn L xs (d + 1) 246 86 89 236 ls st x) := by
  have h1 : qx_act L xs (qx_rt 246) (86, .invokevirtual 244, 89, 236, 3, 2081) ls (.int z1 :: .int z0 :: .ref t :: st) M = if 3 ≤ (.int z1 :: .int z0 :: .ref t :: st).length ∧ st.length ≤ 4 then some (.inr (.inr (.inr (236, [.ref t, .int z0, .int z1], st)))) else none := rfl
  rw [if_pos ⟨by simp [List.length_cons]; try omega, hs⟩] at h1
  have h2 := qx_kd_obj (k := 8) (by decide) hk
  exact Rs_call c246_86 h1 (by rw [show qx_args 236 [.ref t, .int z0, .int z1] = decide (qx_sh t = some (.inl 8)) from rfl]; exact decide_eq_true h2)
theorem c246_89 : qx_code 246 89 = some (89, .iinc 7 (-1), 92, 0, 0, 0) := by decide +kernel
theorem s246_89i {L : Nat} {xs : Nat → Int32} {d x : Nat} {M : qxM} {st : List Value} {a0 a1 a2 a3 a4 a5 : Option Value} {z : Int32} {y : Int32} : Rs L xs (d) 246 89 [a0, a1, a2, a3, a4, a5, some (.int y), some (.int z)] st M x = Rs L xs (d) 246 92 [a0, a1, a2, a3, a4, a5, some (.int y), some (.int (z + (-1)))] st M x := Rs_next c246_89 rfl
theorem s246_89r {L : Nat} {xs : Nat → Int32} {d x : Nat} {M : qxM} {st : List Value} {a0 a1 a2 a3 a4 a5 : Option Value} {z : Int32} {y : Nat} : Rs L xs (d) 246 89 [a0, a1, a2, a3, a4, a5, some (.ref y), some (.int z)] st M x = Rs L xs (d) 246 92 [a0, a1, a2, a3, a4, a5, some (.ref y), some (.int (z + (-1)))] st M x := Rs_next c246_89 rfl
theorem s246_89n {L : Nat} {xs : Nat → Int32} {d x : Nat} {M : qxM} {st : List Value} {a0 a1 a2 a3 a4 a5 : Option Value} {z : Int32} : Rs L xs (d) 246 89 [a0, a1, a2, a3, a4, a5, none, some (.int z)] st M x = Rs L xs (d) 246 92 [a0, a1, a2, a3, a4, a5, none, some (.int (z + (-1)))] st M x := Rs_next c246_89 rfl
theorem c246_92 : qx_code 246 92 = some (92, .goto (-21), 95, 71, 0, 0) := by decide +kernel
theorem s246_92 {L : Nat} {xs : Nat → Int32} {d x : Nat} {M : qxM} {st : List Value} {ls : qxL} : Rs L xs (d) 246 92 ls st M x = Rs L xs (d) 246 71 ls st M x := Rs_next c246_92 rfl
theorem c246_95 : qx_code 246 95 = some (95, .aload_n 0, 96, 0, 0, 0) := by decide +kernel
theorem s246_95 {L : Nat} {xs : Nat → Int32} {d x : Nat} {M : qxM} {st : List Value} {a1 a2 a3 a4 a5 a6 a7 : Option Value} {z : Nat} : Rs L xs (d) 246 95 [some (.ref z), a1, a2, a3, a4, a5, a6, a7] st M x = Rs L xs (d) 246 96 [some (.ref z), a1, a2, a3, a4, a5, a6, a7] (.ref z :: st) M x := Rs_next c246_95 rfl
theorem c246_96 : qx_code 246 96 = some (96, .iload 6, 98, 0, 0, 0) := by decide +kernel
theorem s246_96 {L : Nat} {xs : Nat → Int32} {d x : Nat} {M : qxM} {st : List Value} {a0 a1 a2 a3 a4 a5 a7 : Option Value} {z : Int32} : Rs L xs (d) 246 96 [a0, a1, a2, a3, a4, a5, some (.int z), a7] st M x = Rs L xs (d) 246 98 [a0, a1, a2, a3, a4, a5, some (.int z), a7] (.int z :: st) M x := Rs_next c246_96 rfl
theorem c246_98 : qx_code 246 98 = some (98, .iload_n 2, 99, 0, 0, 0) := by decide +kernel
theorem s246_98 {L : Nat} {xs : Nat → Int32} {d x : Nat} {M : qxM} {st : List Value} {a0 a1 a3 a4 a5 a6 a7 : Option Value} {z : Int32} : Rs L xs (d) 246 98 [a0, a1, some (.int z), a3, a4, a5, a6, a7] st M x = Rs L xs (d) 246 99 [a0, a1, some (.int z), a3, a4, a5, a6, a7] (.int z :: st) M x := Rs_next c246_98 rfl
theorem c246_99 : qx_code 246 99 = some (99, .invokevirtual 253, 102, 237, 3, 2121) := by decide +kernel
theorem s246_99 {L : Nat} {xs : Nat → Int32} {d x : Nat} {M : qxM} {st : List Value} {ls : qxL} {t : Nat} {z0 : Int32} {z1 : Int32} (hk : qx_kd t = 18) (hs : st.length ≤ 4) : Rs L xs (d + 1) 246 99 ls (.int z1 :: .int z0 :: .ref t :: st) M x = (Rs L xs d 237 0 [some (.ref t), some (.int z0), some (.int z1), none] [] M 0).bind (qx_kn L xs (d + 1) 246 99 102 237 ls st x) := by
  have h1 : qx_act L xs (qx_rt 246) (99, .invokevirtual 253, 102, 237, 3, 2121) ls (.int z1 :: .int z0 :: .ref t :: st) M = if 3 ≤ (.int z1 :: .int z0 :: .ref t :: st).length ∧ st.length ≤ 4 then some (.inr (.inr (.inr (237, [.ref t, .int z0, .int z1], st)))) else none := rfl
  rw [if_pos ⟨by simp [List.length_cons]; try omega, hs⟩] at h1
  have h2 := qx_kd_obj (k := 8) (by decide) hk
  exact Rs_call c246_99 h1 (by rw [show qx_args 237 [.ref t, .int z0, .int z1] = decide (qx_sh t = some (.inl 8)) from rfl]; exact decide_eq_true h2)
theorem c246_102 : qx_code 246 102 = some (102, .iload 4, 104, 0, 0, 0) := by decide +kernel
theorem s246_102 {L : Nat} {xs : Nat → Int32} {d x : Nat} {M : qxM} {st : List Value} {a0 a1 a2 a3 a5 a6 a7 : Option Value} {z : Int32} : Rs L xs (d) 246 102 [a0, a1, a2, a3, some (.int z), a5, a6, a7] st M x = Rs L xs (d) 246 104 [a0, a1, a2, a3, some (.int z), a5, a6, a7] (.int z :: st) M x := Rs_next c246_102 rfl
theorem c246_104 : qx_code 246 104 = some (104, .iconst 1, 105, 0, 0, 0) := by decide +kernel
theorem s246_104 {L : Nat} {xs : Nat → Int32} {d x : Nat} {M : qxM} {st : List Value} {ls : qxL} : Rs L xs (d) 246 104 ls st M x = Rs L xs (d) 246 105 ls (.int (nI 1) :: st) M x := Rs_next c246_104 rfl
theorem c246_105 : qx_code 246 105 = some (105, .iload 6, 107, 0, 0, 0) := by decide +kernel
theorem s246_105 {L : Nat} {xs : Nat → Int32} {d x : Nat} {M : qxM} {st : List Value} {a0 a1 a2 a3 a4 a5 a7 : Option Value} {z : Int32} : Rs L xs (d) 246 105 [a0, a1, a2, a3, a4, a5, some (.int z), a7] st M x = Rs L xs (d) 246 107 [a0, a1, a2, a3, a4, a5, some (.int z), a7] (.int z :: st) M x := Rs_next c246_105 rfl
theorem c246_107 : qx_code 246 107 = some (107, .ishl, 108, 0, 0, 0) := by decide +kernel
theorem s246_107 {L : Nat} {xs : Nat → Int32} {d x : Nat} {M : qxM} {st : List Value} {ls : qxL} {z y : Int32} : Rs L xs (d) 246 107 ls (.int y :: .int z :: st) M x = Rs L xs (d) 246 108 ls (.int (z <<< (y &&& 31)) :: st) M x := Rs_next c246_107 rfl
theorem c246_108 : qx_code 246 108 = some (108, .ior, 109, 0, 0, 0) := by decide +kernel
theorem s246_108 {L : Nat} {xs : Nat → Int32} {d x : Nat} {M : qxM} {st : List Value} {ls : qxL} {z y : Int32} : Rs L xs (d) 246 108 ls (.int y :: .int z :: st) M x = Rs L xs (d) 246 109 ls (.int (z ||| y) :: st) M x := Rs_next c246_108 rfl
theorem c246_109 : qx_code 246 109 = some (109, .istore 4, 111, 0, 0, 0) := by decide +kernel
theorem s246_109i {L : Nat} {xs : Nat → Int32} {d x : Nat} {M : qxM} {st : List Value} {a0 a1 a2 a4 a5 a6 a7 : Option Value} {z : Int32} {y : Int32} : Rs L xs (d) 246 109 [a0, a1, a2, some (.int y), a4, a5, a6, a7] (.int z :: st) M x = Rs L xs (d) 246 111 [a0, a1, a2, some (.int y), some (.int z), a5, a6, a7] st M x := Rs_next c246_109 rfl
theorem s246_109r {L : Nat} {xs : Nat → Int32} {d x : Nat} {M : qxM} {st : List Value} {a0 a1 a2 a4 a5 a6 a7 : Option Value} {z : Int32} {y : Nat} : Rs L xs (d) 246 109 [a0, a1, a2, some (.ref y), a4, a5, a6, a7] (.int z :: st) M x = Rs L xs (d) 246 111 [a0, a1, a2, some (.ref y), some (.int z), a5, a6, a7] st M x := Rs_next c246_109 rfl
theorem s246_109n {L : Nat} {xs : Nat → Int32} {d x : Nat} {M : qxM} {st : List Value} {a0 a1 a2 a4 a5 a6 a7 : Option Value} {z : Int32} : Rs L xs (d) 246 109 [a0, a1, a2, none, a4, a5, a6, a7] (.int z :: st) M x = Rs L xs (d) 246 111 [a0, a1, a2, none, some (.int z), a5, a6, a7] st M x := Rs_next c246_109 rfl
theorem c246_111 : qx_code 246 111 = some (111, .aload_n 0, 112, 0, 0, 0) := by decide +kernel
theorem s246_111 {L : Nat} {xs : Nat → Int32} {d x : Nat} {M : qxM} {st : List Value} {a1 a2 a3 a4 a5 a6 a7 : Option Value} {z : Nat} : Rs L xs (d) 246 111 [some (.ref z), a1, a2, a3, a4, a5, a6, a7] st M x = Rs L xs (d) 246 112 [some (.ref z), a1, a2, a3, a4, a5, a6, a7] (.ref z :: st) M x := Rs_next c246_111 rfl
theorem c246_112 : qx_code 246 112 = some (112, .iload 5, 114, 0, 0, 0) := by decide +kernel
theorem s246_112 {L : Nat} {xs : Nat → Int32} {d x : Nat} {M : qxM} {st : List Value} {a0 a1 a2 a3 a4 a6 a7 : Option Value} {z : Int32} : Rs L xs (d) 246 112 [a0, a1, a2, a3, a4, some (.int z), a6, a7] st M x = Rs L xs (d) 246 114 [a0, a1, a2, a3, a4, some (.int z), a6, a7] (.int z :: st) M x := Rs_next c246_112 rfl
theorem c246_114 : qx_code 246 114 = some (114, .invokevirtual 256, 117, 244, 2, 2109) := by decide +kernel
theorem s246_114 {L : Nat} {xs : Nat → Int32} {d x : Nat} {M : qxM} {st : List Value} {ls : qxL} {t : Nat} {z0 : Int32} (hk : qx_kd t = 18) (hs : st.length ≤ 4) : Rs L xs (d + 1) 246 114 ls (.int z0 :: .ref t :: st) M x = (Rs L xs d 244 0 [some (.ref t), some (.int z0)] [] M 0).bind (qx_kn L xs (d + 1) 246 114 117 244 ls st x) := by
  have h1 : qx_act L xs (qx_rt 246) (114, .invokevirtual 256, 117, 244, 2, 2109) ls (.int z0 :: .ref t :: st) M = if 2 ≤ (.int z0 :: .ref t :: st).length ∧ st.length ≤ 4 then some (.inr (.inr (.inr (244, [.ref t, .int z0], st)))) else none := rfl
  rw [if_pos ⟨by simp [List.length_cons]; try omega, hs⟩] at h1
  have h2 := qx_kd_obj (k := 8) (by decide) hk
  exact Rs_call c246_114 h1 (by rw [show qx_args 244 [.ref t, .int z0] = decide (qx_sh t = some (.inl 8)) from rfl]; exact decide_eq_true h2)
theorem c246_117 : qx_code 246 117 = some (117, .istore 5, 119, 0, 0, 0) := by decide +kernel
theorem s246_117i {L : Nat} {xs : Nat → Int32} {d x : Nat} {M : qxM} {st : List Value} {a0 a1 a2 a3 a5 a6 a7 : Option Value} {z : Int32} {y : Int32} : Rs L xs (d) 246 117 [a0, a1, a2, a3, some (.int y), a5, a6, a7] (.int z :: st) M x = Rs L xs (d) 246 119 [a0, a1, a2, a3, some (.int y), some (.int z), a6, a7] st M x := Rs_next c246_117 rfl
theorem s246_117r {L : Nat} {xs : Nat → Int32} {d x : Nat} {M : qxM} {st : List Value} {a0 a1 a2 a3 a5 a6 a7 : Option Value} {z : Int32} {y : Nat} : Rs L xs (d) 246 117 [a0, a1, a2, a3, some (.ref y), a5, a6, a7] (.int z :: st) M x = Rs L xs (d) 246 119 [a0, a1, a2, a3, some (.ref y), some (.int z), a6, a7] st M x := Rs_next c246_117 rfl
theorem s246_117n {L : Nat} {xs : Nat → Int32} {d x : Nat} {M : qxM} {st : List Value} {a0 a1 a2 a3 a5 a6 a7 : Option Value} {z : Int32} : Rs L xs (d) 246 117 [a0, a1, a2, a3, none, a5, a6, a7] (.int z :: st) M x = Rs L xs (d) 246 119 [a0, a1, a2, a3, none, some (.int z), a6, a7] st M x := Rs_next c246_117 rfl
theorem c246_119 : qx_code 246 119 = some (119, .goto (-105), 122, 14, 0, 0) := by decide +kernel
theorem s246_119 {L : Nat} {xs : Nat → Int32} {d x : Nat} {M : qxM} {st : List Value} {ls : qxL} : Rs L xs (d) 246 119 ls st M x = Rs L xs (d) 246 14 ls st M x := Rs_next c246_119 rfl
theorem c246_122 : qx_code 246 122 = some (122, .iload 4, 124, 0, 0, 0) := by decide +kernel
theorem s246_122 {L : Nat} {xs : Nat → Int32} {d x : Nat} {M : qxM} {st : List Value} {a0 a1 a2 a3 a5 a6 a7 : Option Value} {z : Int32} : Rs L xs (d) 246 122 [a0, a1, a2, a3, some (.int z), a5, a6, a7] st M x = Rs L xs (d) 246 124 [a0, a1, a2, a3, some (.int z), a5, a6, a7] (.int z :: st) M x := Rs_next c246_122 rfl
theorem c246_124 : qx_code 246 124 = some (124, .ireturn, 125, 0, 0, 0) := by decide +kernel
theorem s246_124 {L : Nat} {xs : Nat → Int32} {d x : Nat} {M : qxM} {ls : qxL} {z : Int32} : Rs L xs (d) 246 124 ls [.int z] M x = some (.inl (some (.int z)), M, x) := Rs_ret c246_124 rfl
theorem c247_0 : qx_code 247 0 = some (0, .iconst 0, 1, 0, 0, 0) := by decide +kernel
theorem s247_0 {L : Nat} {xs : Nat → Int32} {d x : Nat} {M : qxM} {st : List Value} {ls : qxL} : Rs L xs (d) 247 0 ls st M x = Rs L xs (d) 247 1 ls (.int (nI 0) :: st) M x := Rs_next c247_0 rfl
theorem c247_1 : qx_code 247 1 = some (1, .istore_n 3, 2, 0, 0, 0) := by decide +kernel
theorem s247_1i {L : Nat} {xs : Nat → Int32} {d x : Nat} {M : qxM} {st : List Value} {a0 a1 a3 a4 : Option Value} {z : Int32} {y : Int32} : Rs L xs (d) 247 1 [a0, a1, some (.int y), a3, a4] (.int z :: st) M x = Rs L xs (d) 247 2 [a0, a1, some (.int y), some (.int z), a4] st M x := Rs_next c247_1 rfl
theorem s247_1r {L : Nat} {xs : Nat → Int32} {d x : Nat} {M : qxM} {st : List Value} {a0 a1 a3 a4 : Option Value} {z : Int32} {y : Nat} : Rs L xs (d) 247 1 [a0, a1, some (.ref y), a3, a4] (.int z :: st) M x = Rs L xs (d) 247 2 [a0, a1, some (.ref y), some (.int z), a4] st M x := Rs_next c247_1 rfl
theorem s247_1n {L : Nat} {xs : Nat → Int32} {d x : Nat} {M : qxM} {st : List Value} {a0 a1 a3 a4 : Option Value} {z : Int32} : Rs L xs (d) 247 1 [a0, a1, none, a3, a4] (.int z :: st) M x = Rs L xs (d) 247 2 [a0, a1, none, some (.int z), a4] st M x := Rs_next c247_1 rfl
theorem c247_2 : qx_code 247 2 = some (2, .iload_n 1, 3, 0, 0, 0) := by decide +kernel
theorem s247_2 {L : Nat} {xs : Nat → Int32} {d x : Nat} {M : qxM} {st : List Value} {a0 a2 a3 a4 : Option Value} {z : Int32} : Rs L xs (d) 247 2 [a0, some (.int z), a2, a3, a4] st M x = Rs L xs (d) 247 3 [a0, some (.int z), a2, a3, a4] (.int z :: st) M x := Rs_next c247_2 rfl
theorem c247_3 : qx_code 247 3 = some (3, .istore 4, 5, 0, 0, 0) := by decide +kernel
theorem s247_3i {L : Nat} {xs : Nat → Int32} {d x : Nat} {M : qxM} {st : List Value} {a0 a1 a2 a4 : Option Value} {z : Int32} {y : Int32} : Rs L xs (d) 247 3 [a0, a1, a2, some (.int y), a4] (.int z :: st) M x = Rs L xs (d) 247 5 [a0, a1, a2, some (.int y), some (.int z)] st M x := Rs_next c247_3 rfl
theorem s247_3r {L : Nat} {xs : Nat → Int32} {d x : Nat} {M : qxM} {st : List Value} {a0 a1 a2 a4 : Option Value} {z : Int32} {y : Nat} : Rs L xs (d) 247 3 [a0, a1, a2, some (.ref y), a4] (.int z :: st) M x = Rs L xs (d) 247 5 [a0, a1, a2, some (.ref y), some (.int z)] st M x := Rs_next c247_3 rfl
theorem s247_3n {L : Nat} {xs : Nat → Int32} {d x : Nat} {M : qxM} {st : List Value} {a0 a1 a2 a4 : Option Value} {z : Int32} : Rs L xs (d) 247 3 [a0, a1, a2, none, a4] (.int z :: st) M x = Rs L xs (d) 247 5 [a0, a1, a2, none, some (.int z)] st M x := Rs_next c247_3 rfl
theorem c247_5 : qx_code 247 5 = some (5, .iload 4, 7, 0, 0, 0) := by decide +kernel
theorem s247_5 {L : Nat} {xs : Nat → Int32} {d x : Nat} {M : qxM} {st : List Value} {a0 a1 a2 a3 : Option Value} {z : Int32} : Rs L xs (d) 247 5 [a0, a1, a2, a3, some (.int z)] st M x = Rs L xs (d) 247 7 [a0, a1, a2, a3, some (.int z)] (.int z :: st) M x := Rs_next c247_5 rfl
theorem c247_7 : qx_code 247 7 = some (7, .iload_n 2, 8, 0, 0, 0) := by decide +kernel
theorem s247_7 {L : Nat} {xs : Nat → Int32} {d x : Nat} {M : qxM} {st : List Value} {a0 a1 a3 a4 : Option Value} {z : Int32} : Rs L xs (d) 247 7 [a0, a1, some (.int z), a3, a4] st M x = Rs L xs (d) 247 8 [a0, a1, some (.int z), a3, a4] (.int z :: st) M x := Rs_next c247_7 rfl
theorem c247_8 : qx_code 247 8 = some (8, .if_icmp .eq 21, 11, 29, 0, 0) := by decide +kernel
theorem s247_8 {L : Nat} {xs : Nat → Int32} {d x : Nat} {M : qxM} {st : List Value} {ls : qxL} {z y : Int32} : Rs L xs (d) 247 8 ls (.int y :: .int z :: st) M x = if z = y then Rs L xs (d) 247 29 ls st M x else Rs L xs (d) 247 11 ls st M x := Rs_ite c247_8 rfl
theorem c247_11 : qx_code 247 11 = some (11, .iload_n 3, 12, 0, 0, 0) := by decide +kernel
theorem s247_11 {L : Nat} {xs : Nat → Int32} {d x : Nat} {M : qxM} {st : List Value} {a0 a1 a2 a4 : Option Value} {z : Int32} : Rs L xs (d) 247 11 [a0, a1, a2, some (.int z), a4] st M x = Rs L xs (d) 247 12 [a0, a1, a2, some (.int z), a4] (.int z :: st) M x := Rs_next c247_11 rfl
theorem c247_12 : qx_code 247 12 = some (12, .iconst 1, 13, 0, 0, 0) := by decide +kernel
theorem s247_12 {L : Nat} {xs : Nat → Int32} {d x : Nat} {M : qxM} {st : List Value} {ls : qxL} : Rs L xs (d) 247 12 ls st M x = Rs L xs (d) 247 13 ls (.int (nI 1) :: st) M x := Rs_next c247_12 rfl
theorem c247_13 : qx_code 247 13 = some (13, .iload 4, 15, 0, 0, 0) := by decide +kernel
theorem s247_13 {L : Nat} {xs : Nat → Int32} {d x : Nat} {M : qxM} {st : List Value} {a0 a1 a2 a3 : Option Value} {z : Int32} : Rs L xs (d) 247 13 [a0, a1, a2, a3, some (.int z)] st M x = Rs L xs (d) 247 15 [a0, a1, a2, a3, some (.int z)] (.int z :: st) M x := Rs_next c247_13 rfl
theorem c247_15 : qx_code 247 15 = some (15, .ishl, 16, 0, 0, 0) := by decide +kernel
theorem s247_15 {L : Nat} {xs : Nat → Int32} {d x : Nat} {M : qxM} {st : List Value} {ls : qxL} {z y : Int32} : Rs L xs (d) 247 15 ls (.int y :: .int z :: st) M x = Rs L xs (d) 247 16 ls (.int (z <<< (y &&& 31)) :: st) M x := Rs_next c247_15 rfl
theorem c247_16 : qx_code 247 16 = some (16, .ior, 17, 0, 0, 0) := by decide +kernel
theorem s247_16 {L : Nat} {xs : Nat → Int32} {d x : Nat} {M : qxM} {st : List Value} {ls : qxL} {z y : Int32} : Rs L xs (d) 247 16 ls (.int y :: .int z :: st) M x = Rs L xs (d) 247 17 ls (.int (z ||| y) :: st) M x := Rs_next c247_16 rfl
theorem c247_17 : qx_code 247 17 = some (17, .istore_n 3, 18, 0, 0, 0) := by decide +kernel
theorem s247_17i {L : Nat} {xs : Nat → Int32} {d x : Nat} {M : qxM} {st : List Value} {a0 a1 a3 a4 : Option Value} {z : Int32} {y : Int32} : Rs L xs (d) 247 17 [a0, a1, some (.int y), a3, a4] (.int z :: st) M x = Rs L xs (d) 247 18 [a0, a1, some (.int y), some (.int z), a4] st M x := Rs_next c247_17 rfl
theorem s247_17r {L : Nat} {xs : Nat → Int32} {d x : Nat} {M : qxM} {st : List Value} {a0 a1 a3 a4 : Option Value} {z : Int32} {y : Nat} : Rs L xs (d) 247 17 [a0, a1, some (.ref y), a3, a4] (.int z :: st) M x = Rs L xs (d) 247 18 [a0, a1, some (.ref y), some (.int z), a4] st M x := Rs_next c247_17 rfl
theorem s247_17n {L : Nat} {xs : Nat → Int32} {d x : Nat} {M : qxM} {st : List Value} {a0 a1 a3 a4 : Option Value} {z : Int32} : Rs L xs (d) 247 17 [a0, a1, none, a3, a4] (.int z :: st) M x = Rs L xs (d) 247 18 [a0, a1, none, some (.int z), a4] st M x := Rs_next c247_17 rfl
theorem c247_18 : qx_code 247 18 = some (18, .aload_n 0, 19, 0, 0, 0) := by decide +kernel
theorem s247_18 {L : Nat} {xs : Nat → Int32} {d x : Nat} {M : qxM} {st : List Value} {a1 a2 a3 a4 : Option Value} {z : Nat} : Rs L xs (d) 247 18 [some (.ref z), a1, a2, a3, a4] st M x = Rs L xs (d) 247 19 [some (.ref z), a1, a2, a3, a4] (.ref z :: st) M x := Rs_next c247_18 rfl
theorem c247_19 : qx_code 247 19 = some (19, .iload 4, 21, 0, 0, 0) := by decide +kernel
theorem s247_19 {L : Nat} {xs : Nat → Int32} {d x : Nat} {M : qxM} {st : List Value} {a0 a1 a2 a3 : Option Value} {z : Int32} : Rs L xs (d) 247 19 [a0, a1, a2, a3, some (.int z)] st M x = Rs L xs (d) 247 21 [a0, a1, a2, a3, some (.int z)] (.int z :: st) M x := Rs_next c247_19 rfl
theorem c247_21 : qx_code 247 21 = some (21, .invokevirtual 256, 24, 244, 2, 2109) := by decide +kernel
theorem s247_21 {L : Nat} {xs : Nat → Int32} {d x : Nat} {M : qxM} {st : List Value} {ls : qxL} {t : Nat} {z0 : Int32} (hk : qx_kd t = 18) (hs : st.length ≤ 4) : Rs L xs (d + 1) 247 21 ls (.int z0 :: .ref t :: st) M x = (Rs L xs d 244 0 [some (.ref t), some (.int z0)] [] M 0).bind (qx_kn L xs (d + 1) 247 21 24 244 ls st x) := by
  have h1 : qx_act L xs (qx_rt 247) (21, .invokevirtual 256, 24, 244, 2, 2109) ls (.int z0 :: .ref t :: st) M = if 2 ≤ (.int z0 :: .ref t :: st).length ∧ st.length ≤ 4 then some (.inr (.inr (.inr (244, [.ref t, .int z0], st)))) else none := rfl
  rw [if_pos ⟨by simp [List.length_cons]; try omega, hs⟩] at h1
  have h2 := qx_kd_obj (k := 8) (by decide) hk
  exact Rs_call c247_21 h1 (by rw [show qx_args 244 [.ref t, .int z0] = decide (qx_sh t = some (.inl 8)) from rfl]; exact decide_eq_true h2)
theorem c247_24 : qx_code 247 24 = some (24, .istore 4, 26, 0, 0, 0) := by decide +kernel
theorem s247_24i {L : Nat} {xs : Nat → Int32} {d x : Nat} {M : qxM} {st : List Value} {a0 a1 a2 a4 : Option Value} {z : Int32} {y : Int32} : Rs L xs (d) 247 24 [a0, a1, a2, some (.int y), a4] (.int z :: st) M x = Rs L xs (d) 247 26 [a0, a1, a2, some (.int y), some (.int z)] st M x := Rs_next c247_24 rfl
theorem s247_24r {L : Nat} {xs : Nat → Int32} {d x : Nat} {M : qxM} {st : List Value} {a0 a1 a2 a4 : Option Value} {z : Int32} {y : Nat} : Rs L xs (d) 247 24 [a0, a1, a2, some (.ref y), a4] (.int z :: st) M x = Rs L xs (d) 247 26 [a0, a1, a2, some (.ref y), some (.int z)] st M x := Rs_next c247_24 rfl
theorem s247_24n {L : Nat} {xs : Nat → Int32} {d x : Nat} {M : qxM} {st : List Value} {a0 a1 a2 a4 : Option Value} {z : Int32} : Rs L xs (d) 247 24 [a0, a1, a2, none, a4] (.int z :: st) M x = Rs L xs (d) 247 26 [a0, a1, a2, none, some (.int z)] st M x := Rs_next c247_24 rfl
theorem c247_26 : qx_code 247 26 = some (26, .goto (-21), 29, 5, 0, 0) := by decide +kernel
theorem s247_26 {L : Nat} {xs : Nat → Int32} {d x : Nat} {M : qxM} {st : List Value} {ls : qxL} : Rs L xs (d) 247 26 ls st M x = Rs L xs (d) 247 5 ls st M x := Rs_next c247_26 rfl
theorem c247_29 : qx_code 247 29 = some (29, .iload_n 3, 30, 0, 0, 0) := by decide +kernel
theorem s247_29 {L : Nat} {xs : Nat → Int32} {d x : Nat} {M : qxM} {st : List Value} {a0 a1 a2 a4 : Option Value} {z : Int32} : Rs L xs (d) 247 29 [a0, a1, a2, some (.int z), a4] st M x = Rs L xs (d) 247 30 [a0, a1, a2, some (.int z), a4] (.int z :: st) M x := Rs_next c247_29 rfl
theorem c247_30 : qx_code 247 30 = some (30, .ireturn, 31, 0, 0, 0) := by decide +kernel
theorem s247_30 {L : Nat} {xs : Nat → Int32} {d x : Nat} {M : qxM} {ls : qxL} {z : Int32} : Rs L xs (d) 247 30 ls [.int z] M x = some (.inl (some (.int z)), M, x) := Rs_ret c247_30 rfl
theorem c248_0 : qx_code 248 0 = some (0, .aload_n 0, 1, 0, 0, 0) := by decide +kernel
theorem s248_0 {L : Nat} {xs : Nat → Int32} {d x : Nat} {M : qxM} {st : List Value} {a1 a2 a3 a4 a5 a6 a7 a8 : Option Value} {z : Nat} : Rs L xs (d) 248 0 [some (.ref z), a1, a2, a3, a4, a5, a6, a7, a8] st M x = Rs L xs (d) 248 1 [some (.ref z), a1, a2, a3, a4, a5, a6, a7, a8] (.ref z :: st) M x := Rs_next c248_0 rfl
theorem c248_1 : qx_code 248 1 = some (1, .aload_n 0, 2, 0, 0, 0) := by decide +kernel
theorem s248_1 {L : Nat} {xs : Nat → Int32} {d x : Nat} {M : qxM} {st : List Value} {a1 a2 a3 a4 a5 a6 a7 a8 : Option Value} {z : Nat} : Rs L xs (d) 248 1 [some (.ref z), a1, a2, a3, a4, a5, a6, a7, a8] st M x = Rs L xs (d) 248 2 [some (.ref z), a1, a2, a3, a4, a5, a6, a7, a8] (.ref z :: st) M x := Rs_next c248_1 rfl
theorem c248_2 : qx_code 248 2 = some (2, .getfield 9, 5, 8, 1, 1546) := by decide +kernel
theorem s248_2 {L : Nat} {xs : Nat → Int32} {d x : Nat} {M : qxM} {st : List Value} {ls : qxL} {t : Nat} (hk : qx_kd t = 18) : Rs L xs (d) 248 2 ls (.ref t :: st) M x = Rs L xs (d) 248 5 ls (.ref (t + 1) :: st) M x := Rs_when (qx_kd_obj (k := 8) (by decide) hk) c248_2 rfl
theorem c248_5 : qx_code 248 5 = some (5, .bipush 69, 7, 0, 0, 0) := by decide +kernel
theorem s248_5 {L : Nat} {xs : Nat → Int32} {d x : Nat} {M : qxM} {st : List Value} {ls : qxL} : Rs L xs (d) 248 5 ls st M x = Rs L xs (d) 248 7 ls (.int (nI 69) :: st) M x := Rs_next c248_5 rfl
theorem c248_7 : qx_code 248 7 = some (7, .iload_n 2, 8, 0, 0, 0) := by decide +kernel
theorem s248_7 {L : Nat} {xs : Nat → Int32} {d x : Nat} {M : qxM} {st : List Value} {a0 a1 a3 a4 a5 a6 a7 a8 : Option Value} {z : Int32} : Rs L xs (d) 248 7 [a0, a1, some (.int z), a3, a4, a5, a6, a7, a8] st M x = Rs L xs (d) 248 8 [a0, a1, some (.int z), a3, a4, a5, a6, a7, a8] (.int z :: st) M x := Rs_next c248_7 rfl
theorem c248_8 : qx_code 248 8 = some (8, .iadd, 9, 0, 0, 0) := by decide +kernel
theorem s248_8 {L : Nat} {xs : Nat → Int32} {d x : Nat} {M : qxM} {st : List Value} {ls : qxL} {z y : Int32} : Rs L xs (d) 248 8 ls (.int y :: .int z :: st) M x = Rs L xs (d) 248 9 ls (.int (z + y) :: st) M x := Rs_next c248_8 rfl
theorem c248_9 : qx_code 248 9 = some (9, .iaload, 10, 0, 0, 0) := by decide +kernel
theorem s248_9 {L : Nat} {xs : Nat → Int32} {d x : Nat} {M : qxM} {st : List Value} {ls : qxL} {t : Nat} {j : Int32} (hk : qx_kd t = 0) (hj : qx_ib j (qx_ln t) = true) : Rs L xs (d) 248 9 ls (.int j :: .ref t :: st) M x = Rs L xs (d) 248 10 ls (.int (M.1 t j.toNatClampNeg) :: st) M x := by
  have h1 := qx_kd_row (k := 0) (by decide) hk
  exact Rs_unless (qx_ib_not hj) c248_9 (by unfold qx_act; dsimp only; rw [h1]; rfl)
theorem c248_10 : qx_code 248 10 = some (10, .invokevirtual 259, 13, 245, 2, 2105) := by decide +kernel
theorem s248_10 {L : Nat} {xs : Nat → Int32} {d x : Nat} {M : qxM} {st : List Value} {ls : qxL} {t : Nat} {z0 : Int32} (hk : qx_kd t = 18) (hs : st.length ≤ 4) : Rs L xs (d + 1) 248 10 ls (.int z0 :: .ref t :: st) M x = (Rs L xs d 245 0 [some (.ref t), some (.int z0), none, none] [] M 0).bind (qx_kn L xs (d + 1) 248 10 13 245 ls st x) := by
  have h1 : qx_act L xs (qx_rt 248) (10, .invokevirtual 259, 13, 245, 2, 2105) ls (.int z0 :: .ref t :: st) M = if 2 ≤ (.int z0 :: .ref t :: st).length ∧ st.length ≤ 4 then some (.inr (.inr (.inr (245, [.ref t, .int z0], st)))) else none := rfl
  rw [if_pos ⟨by simp [List.length_cons]; try omega, hs⟩] at h1
  have h2 := qx_kd_obj (k := 8) (by decide) hk
  exact Rs_call c248_10 h1 (by rw [show qx_args 245 [.ref t, .int z0] = decide (qx_sh t = some (.inl 8)) from rfl]; exact decide_eq_true h2)
theorem c248_13 : qx_code 248 13 = some (13, .istore_n 3, 14, 0, 0, 0) := by decide +kernel
theorem s248_13i {L : Nat} {xs : Nat → Int32} {d x : Nat} {M : qxM} {st : List Value} {a0 a1 a3 a4 a5 a6 a7 a8 : Option Value} {z : Int32} {y : Int32} : Rs L xs (d) 248 13 [a0, a1, some (.int y), a3, a4, a5, a6, a7, a8] (.int z :: st) M x = Rs L xs (d) 248 14 [a0, a1, some (.int y), some (.int z), a4, a5, a6, a7, a8] st M x := Rs_next c248_13 rfl
theorem s248_13r {L : Nat} {xs : Nat → Int32} {d x : Nat} {M : qxM} {st : List Value} {a0 a1 a3 a4 a5 a6 a7 a8 : Option Value} {z : Int32} {y : Nat} : Rs L xs (d) 248 13 [a0, a1, some (.ref y), a3, a4, a5, a6, a7, a8] (.int z :: st) M x = Rs L xs (d) 248 14 [a0, a1, some (.ref y), some (.int z), a4, a5, a6, a7, a8] st M x := Rs_next c248_13 rfl
theorem s248_13n {L : Nat} {xs : Nat → Int32} {d x : Nat} {M : qxM} {st : List Value} {a0 a1 a3 a4 a5 a6 a7 a8 : Option Value} {z : Int32} : Rs L xs (d) 248 13 [a0, a1, none, a3, a4, a5, a6, a7, a8] (.int z :: st) M x = Rs L xs (d) 248 14 [a0, a1, none, some (.int z), a4, a5, a6, a7, a8] st M x := Rs_next c248_13 rfl
theorem c248_14 : qx_code 248 14 = some (14, .aload_n 0, 15, 0, 0, 0) := by decide +kernel
theorem s248_14 {L : Nat} {xs : Nat → Int32} {d x : Nat} {M : qxM} {st : List Value} {a1 a2 a3 a4 a5 a6 a7 a8 : Option Value} {z : Nat} : Rs L xs (d) 248 14 [some (.ref z), a1, a2, a3, a4, a5, a6, a7, a8] st M x = Rs L xs (d) 248 15 [some (.ref z), a1, a2, a3, a4, a5, a6, a7, a8] (.ref z :: st) M x := Rs_next c248_14 rfl
theorem c248_15 : qx_code 248 15 = some (15, .getfield 9, 18, 8, 1, 1546) := by decide +kernel
theorem s248_15 {L : Nat} {xs : Nat → Int32} {d x : Nat} {M : qxM} {st : List Value} {ls : qxL} {t : Nat} (hk : qx_kd t = 18) : Rs L xs (d) 248 15 ls (.ref t :: st) M x = Rs L xs (d) 248 18 ls (.ref (t + 1) :: st) M x := Rs_when (qx_kd_obj (k := 8) (by decide) hk) c248_15 rfl
theorem c248_18 : qx_code 248 18 = some (18, .bipush 69, 20, 0, 0, 0) := by decide +kernel
theorem s248_18 {L : Nat} {xs : Nat → Int32} {d x : Nat} {M : qxM} {st : List Value} {ls : qxL} : Rs L xs (d) 248 18 ls st M x = Rs L xs (d) 248 20 ls (.int (nI 69) :: st) M x := Rs_next c248_18 rfl
theorem c248_20 : qx_code 248 20 = some (20, .iload_n 1, 21, 0, 0, 0) := by decide +kernel
theorem s248_20 {L : Nat} {xs : Nat → Int32} {d x : Nat} {M : qxM} {st : List Value} {a0 a2 a3 a4 a5 a6 a7 a8 : Option Value} {z : Int32} : Rs L xs (d) 248 20 [a0, some (.int z), a2, a3, a4, a5, a6, a7, a8] st M x = Rs L xs (d) 248 21 [a0, some (.int z), a2, a3, a4, a5, a6, a7, a8] (.int z :: st) M x := Rs_next c248_20 rfl
theorem c248_21 : qx_code 248 21 = some (21, .iadd, 22, 0, 0, 0) := by decide +kernel
theorem s248_21 {L : Nat} {xs : Nat → Int32} {d x : Nat} {M : qxM} {st : List Value} {ls : qxL} {z y : Int32} : Rs L xs (d) 248 21 ls (.int y :: .int z :: st) M x = Rs L xs (d) 248 22 ls (.int (z + y) :: st) M x := Rs_next c248_21 rfl
theorem c248_22 : qx_code 248 22 = some (22, .iaload, 23, 0, 0, 0) := by decide +kernel
theorem s248_22 {L : Nat} {xs : Nat → Int32} {d x : Nat} {M : qxM} {st : List Value} {ls : qxL} {t : Nat} {j : Int32} (hk : qx_kd t = 0) (hj : qx_ib j (qx_ln t) = true) : Rs L xs (d) 248 22 ls (.int j :: .ref t :: st) M x = Rs L xs (d) 248 23 ls (.int (M.1 t j.toNatClampNeg) :: st) M x := by
  have h1 := qx_kd_row (k := 0) (by decide) hk
  exact Rs_unless (qx_ib_not hj) c248_22 (by unfold qx_act; dsimp only; rw [h1]; rfl)
theorem c248_23 : qx_code 248 23 = some (23, .istore 4, 25, 0, 0, 0) := by decide +kernel
theorem s248_23i {L : Nat} {xs : Nat → Int32} {d x : Nat} {M : qxM} {st : List Value} {a0 a1 a2 a4 a5 a6 a7 a8 : Option Value} {z : Int32} {y : Int32} : Rs L xs (d) 248 23 [a0, a1, a2, some (.int y), a4, a5, a6, a7, a8] (.int z :: st) M x = Rs L xs (d) 248 25 [a0, a1, a2, some (.int y), some (.int z), a5, a6, a7, a8] st M x := Rs_next c248_23 rfl
theorem s248_23r {L : Nat} {xs : Nat → Int32} {d x : Nat} {M : qxM} {st : List Value} {a0 a1 a2 a4 a5 a6 a7 a8 : Option Value} {z : Int32} {y : Nat} : Rs L xs (d) 248 23 [a0, a1, a2, some (.ref y), a4, a5, a6, a7, a8] (.int z :: st) M x = Rs L xs (d) 248 25 [a0, a1, a2, some (.ref y), some (.int z), a5, a6, a7, a8] st M x := Rs_next c248_23 rfl
theorem s248_23n {L : Nat} {xs : Nat → Int32} {d x : Nat} {M : qxM} {st : List Value} {a0 a1 a2 a4 a5 a6 a7 a8 : Option Value} {z : Int32} : Rs L xs (d) 248 23 [a0, a1, a2, none, a4, a5, a6, a7, a8] (.int z :: st) M x = Rs L xs (d) 248 25 [a0, a1, a2, none, some (.int z), a5, a6, a7, a8] st M x := Rs_next c248_23 rfl
theorem c248_25 : qx_code 248 25 = some (25, .iload_n 3, 26, 0, 0, 0) := by decide +kernel
theorem s248_25 {L : Nat} {xs : Nat → Int32} {d x : Nat} {M : qxM} {st : List Value} {a0 a1 a2 a4 a5 a6 a7 a8 : Option Value} {z : Int32} : Rs L xs (d) 248 25 [a0, a1, a2, some (.int z), a4, a5, a6, a7, a8] st M x = Rs L xs (d) 248 26 [a0, a1, a2, some (.int z), a4, a5, a6, a7, a8] (.int z :: st) M x := Rs_next c248_25 rfl
theorem c248_26 : qx_code 248 26 = some (26, .iload 4, 28, 0, 0, 0) := by decide +kernel
theorem s248_26 {L : Nat} {xs : Nat → Int32} {d x : Nat} {M : qxM} {st : List Value} {a0 a1 a2 a3 a5 a6 a7 a8 : Option Value} {z : Int32} : Rs L xs (d) 248 26 [a0, a1, a2, a3, some (.int z), a5, a6, a7, a8] st M x = Rs L xs (d) 248 28 [a0, a1, a2, a3, some (.int z), a5, a6, a7, a8] (.int z :: st) M x := Rs_next c248_26 rfl
theorem c248_28 : qx_code 248 28 = some (28, .invokestatic 128, 31, 208, 2, 1729) := by decide +kernel
theorem s248_28 {L : Nat} {xs : Nat → Int32} {d x : Nat} {M : qxM} {st : List Value} {ls : qxL} {z0 : Int32} {z1 : Int32} (hs : st.length ≤ 4) : Rs L xs (d + 1) 248 28 ls (.int z1 :: .int z0 :: st) M x = (Rs L xs d 208 0 [some (.int z0), some (.int z1)] [] M 0).bind (qx_kn L xs (d + 1) 248 28 31 208 ls st x) := by
  have h1 : qx_act L xs (qx_rt 248) (28, .invokestatic 128, 31, 208, 2, 1729) ls (.int z1 :: .int z0 :: st) M = if 2 ≤ (.int z1 :: .int z0 :: st).length ∧ st.length ≤ 4 then some (.inr (.inr (.inr (208, [.int z0, .int z1], st)))) else none := rfl
  rw [if_pos ⟨by simp [List.length_cons]; try omega, hs⟩] at h1
  exact Rs_call c248_28 h1 rfl
theorem c248_31 : qx_code 248 31 = some (31, .ifCond .ne 14, 34, 45, 0, 0) := by decide +kernel
theorem s248_31 {L : Nat} {xs : Nat → Int32} {d x : Nat} {M : qxM} {st : List Value} {ls : qxL} {z : Int32} : Rs L xs (d) 248 31 ls (.int z :: st) M x = if z = 0 then Rs L xs (d) 248 34 ls st M x else Rs L xs (d) 248 45 ls st M x := Rs_ite c248_31 rfl
theorem c248_34 : qx_code 248 34 = some (34, .aload_n 0, 35, 0, 0, 0) := by decide +kernel
theorem s248_34 {L : Nat} {xs : Nat → Int32} {d x : Nat} {M : qxM} {st : List Value} {a1 a2 a3 a4 a5 a6 a7 a8 : Option Value} {z : Nat} : Rs L xs (d) 248 34 [some (.ref z), a1, a2, a3, a4, a5, a6, a7, a8] st M x = Rs L xs (d) 248 35 [some (.ref z), a1, a2, a3, a4, a5, a6, a7, a8] (.ref z :: st) M x := Rs_next c248_34 rfl
theorem c248_35 : qx_code 248 35 = some (35, .iload 4, 37, 0, 0, 0) := by decide +kernel
theorem s248_35 {L : Nat} {xs : Nat → Int32} {d x : Nat} {M : qxM} {st : List Value} {a0 a1 a2 a3 a5 a6 a7 a8 : Option Value} {z : Int32} : Rs L xs (d) 248 35 [a0, a1, a2, a3, some (.int z), a5, a6, a7, a8] st M x = Rs L xs (d) 248 37 [a0, a1, a2, a3, some (.int z), a5, a6, a7, a8] (.int z :: st) M x := Rs_next c248_35 rfl
theorem c248_37 : qx_code 248 37 = some (37, .invokevirtual 256, 40, 244, 2, 2109) := by decide +kernel
theorem s248_37 {L : Nat} {xs : Nat → Int32} {d x : Nat} {M : qxM} {st : List Value} {ls : qxL} {t : Nat} {z0 : Int32} (hk : qx_kd t = 18) (hs : st.length ≤ 4) : Rs L xs (d + 1) 248 37 ls (.int z0 :: .ref t :: st) M x = (Rs L xs d 244 0 [some (.ref t), some (.int z0)] [] M 0).bind (qx_kn L xs (d + 1) 248 37 40 244 ls st x) := by
  have h1 : qx_act L xs (qx_rt 248) (37, .invokevirtual 256, 40, 244, 2, 2109) ls (.int z0 :: .ref t :: st) M = if 2 ≤ (.int z0 :: .ref t :: st).length ∧ st.length ≤ 4 then some (.inr (.inr (.inr (244, [.ref t, .int z0], st)))) else none := rfl
  rw [if_pos ⟨by simp [List.length_cons]; try omega, hs⟩] at h1
  have h2 := qx_kd_obj (k := 8) (by decide) hk
  exact Rs_call c248_37 h1 (by rw [show qx_args 244 [.ref t, .int z0] = decide (qx_sh t = some (.inl 8)) from rfl]; exact decide_eq_true h2)
theorem c248_40 : qx_code 248 40 = some (40, .istore 4, 42, 0, 0, 0) := by decide +kernel
theorem s248_40i {L : Nat} {xs : Nat → Int32} {d x : Nat} {M : qxM} {st : List Value} {a0 a1 a2 a4 a5 a6 a7 a8 : Option Value} {z : Int32} {y : Int32} : Rs L xs (d) 248 40 [a0, a1, a2, some (.int y), a4, a5, a6, a7, a8] (.int z :: st) M x = Rs L xs (d) 248 42 [a0, a1, a2, some (.int y), some (.int z), a5, a6, a7, a8] st M x := Rs_next c248_40 rfl
theorem s248_40r {L : Nat} {xs : Nat → Int32} {d x : Nat} {M : qxM} {st : List Value} {a0 a1 a2 a4 a5 a6 a7 a8 : Option Value} {z : Int32} {y : Nat} : Rs L xs (d) 248 40 [a0, a1, a2, some (.ref y), a4, a5, a6, a7, a8] (.int z :: st) M x = Rs L xs (d) 248 42 [a0, a1, a2, some (.ref y), some (.int z), a5, a6, a7, a8] st M x := Rs_next c248_40 rfl
theorem s248_40n {L : Nat} {xs : Nat → Int32} {d x : Nat} {M : qxM} {st : List Value} {a0 a1 a2 a4 a5 a6 a7 a8 : Option Value} {z : Int32} : Rs L xs (d) 248 40 [a0, a1, a2, none, a4, a5, a6, a7, a8] (.int z :: st) M x = Rs L xs (d) 248 42 [a0, a1, a2, none, some (.int z), a5, a6, a7, a8] st M x := Rs_next c248_40 rfl
theorem c248_42 : qx_code 248 42 = some (42, .goto (-17), 45, 25, 0, 0) := by decide +kernel
theorem s248_42 {L : Nat} {xs : Nat → Int32} {d x : Nat} {M : qxM} {st : List Value} {ls : qxL} : Rs L xs (d) 248 42 ls st M x = Rs L xs (d) 248 25 ls st M x := Rs_next c248_42 rfl
theorem c248_45 : qx_code 248 45 = some (45, .aload_n 0, 46, 0, 0, 0) := by decide +kernel
theorem s248_45 {L : Nat} {xs : Nat → Int32} {d x : Nat} {M : qxM} {st : List Value} {a1 a2 a3 a4 a5 a6 a7 a8 : Option Value} {z : Nat} : Rs L xs (d) 248 45 [some (.ref z), a1, a2, a3, a4, a5, a6, a7, a8] st M x = Rs L xs (d) 248 46 [some (.ref z), a1, a2, a3, a4, a5, a6, a7, a8] (.ref z :: st) M x := Rs_next c248_45 rfl
theorem c248_46 : qx_code 248 46 = some (46, .aload_n 0, 47, 0, 0, 0) := by decide +kernel
theorem s248_46 {L : Nat} {xs : Nat → Int32} {d x : Nat} {M : qxM} {st : List Value} {a1 a2 a3 a4 a5 a6 a7 a8 : Option Value} {z : Nat} : Rs L xs (d) 248 46 [some (.ref z), a1, a2, a3, a4, a5, a6, a7, a8] st M x = Rs L xs (d) 248 47 [some (.ref z), a1, a2, a3, a4, a5, a6, a7, a8] (.ref z :: st) M x := Rs_next c248_46 rfl
theorem c248_47 : qx_code 248 47 = some (47, .getfield 9, 50, 8, 1, 1546) := by decide +kernel
theorem s248_47 {L : Nat} {xs : Nat → Int32} {d x : Nat} {M : qxM} {st : List Value} {ls : qxL} {t : Nat} (hk : qx_kd t = 18) : Rs L xs (d) 248 47 ls (.ref t :: st) M x = Rs L xs (d) 248 50 ls (.ref (t + 1) :: st) M x := Rs_when (qx_kd_obj (k := 8) (by decide) hk) c248_47 rfl
theorem c248_50 : qx_code 248 50 = some (50, .bipush 69, 52, 0, 0, 0) := by decide +kernel
theorem s248_50 {L : Nat} {xs : Nat → Int32} {d x : Nat} {M : qxM} {st : List Value} {ls : qxL} : Rs L xs (d) 248 50 ls st M x = Rs L xs (d) 248 52 ls (.int (nI 69) :: st) M x := Rs_next c248_50 rfl
theorem c248_52 : qx_code 248 52 = some (52, .iload_n 1, 53, 0, 0, 0) := by decide +kernel
theorem s248_52 {L : Nat} {xs : Nat → Int32} {d x : Nat} {M : qxM} {st : List Value} {a0 a2 a3 a4 a5 a6 a7 a8 : Option Value} {z : Int32} : Rs L xs (d) 248 52 [a0, some (.int z), a2, a3, a4, a5, a6, a7, a8] st M x = Rs L xs (d) 248 53 [a0, some (.int z), a2, a3, a4, a5, a6, a7, a8] (.int z :: st) M x := Rs_next c248_52 rfl
theorem c248_53 : qx_code 248 53 = some (53, .iadd, 54, 0, 0, 0) := by decide +kernel
theorem s248_53 {L : Nat} {xs : Nat → Int32} {d x : Nat} {M : qxM} {st : List Value} {ls : qxL} {z y : Int32} : Rs L xs (d) 248 53 ls (.int y :: .int z :: st) M x = Rs L xs (d) 248 54 ls (.int (z + y) :: st) M x := Rs_next c248_53 rfl
theorem c248_54 : qx_code 248 54 = some (54, .iaload, 55, 0, 0, 0) := by decide +kernel
theorem s248_54 {L : Nat} {xs : Nat → Int32} {d x : Nat} {M : qxM} {st : List Value} {ls : qxL} {t : Nat} {j : Int32} (hk : qx_kd t = 0) (hj : qx_ib j (qx_ln t) = true) : Rs L xs (d) 248 54 ls (.int j :: .ref t :: st) M x = Rs L xs (d) 248 55 ls (.int (M.1 t j.toNatClampNeg) :: st) M x := by
  have h1 := qx_kd_row (k := 0) (by decide) hk
  exact Rs_unless (qx_ib_not hj) c248_54 (by unfold qx_act; dsimp only; rw [h1]; rfl)
theorem c248_55 : qx_code 248 55 = some (55, .iload 4, 57, 0, 0, 0) := by decide +kernel
theorem s248_55 {L : Nat} {xs : Nat → Int32} {d x : Nat} {M : qxM} {st : List Value} {a0 a1 a2 a3 a5 a6 a7 a8 : Option Value} {z : Int32} : Rs L xs (d) 248 55 [a0, a1, a2, a3, some (.int z), a5, a6, a7, a8] st M x = Rs L xs (d) 248 57 [a0, a1, a2, a3, some (.int z), a5, a6, a7, a8] (.int z :: st) M x := Rs_next c248_55 rfl
theorem c248_57 : qx_code 248 57 = some (57, .invokevirtual 262, 60, 247, 3, 2113) := by decide +kernel
theorem s248_57 {L : Nat} {xs : Nat → Int32} {d x : Nat} {M : qxM} {st : List Value} {ls : qxL} {t : Nat} {z0 : Int32} {z1 : Int32} (hk : qx_kd t = 18) (hs : st.length ≤ 4) : Rs L xs (d + 1) 248 57 ls (.int z1 :: .int z0 :: .ref t :: st) M x = (Rs L xs d 247 0 [some (.ref t), some (.int z0), some (.int z1), none, none] [] M 0).bind (qx_kn L xs (d + 1) 248 57 60 247 ls st x) := by
  have h1 : qx_act L xs (qx_rt 248) (57, .invokevirtual 262, 60, 247, 3, 2113) ls (.int z1 :: .int z0 :: .ref t :: st) M = if 3 ≤ (.int z1 :: .int z0 :: .ref t :: st).length ∧ st.length ≤ 4 then some (.inr (.inr (.inr (247, [.ref t, .int z0, .int z1], st)))) else none := rfl
  rw [if_pos ⟨by simp [List.length_cons]; try omega, hs⟩] at h1
  have h2 := qx_kd_obj (k := 8) (by decide) hk
  exact Rs_call c248_57 h1 (by rw [show qx_args 247 [.ref t, .int z0, .int z1] = decide (qx_sh t = some (.inl 8)) from rfl]; exact decide_eq_true h2)
theorem c248_60 : qx_code 248 60 = some (60, .aload_n 0, 61, 0, 0, 0) := by decide +kernel
theorem s248_60 {L : Nat} {xs : Nat → Int32} {d x : Nat} {M : qxM} {st : List Value} {a1 a2 a3 a4 a5 a6 a7 a8 : Option Value} {z : Nat} : Rs L xs (d) 248 60 [some (.ref z), a1, a2, a3, a4, a5, a6, a7, a8] st M x = Rs L xs (d) 248 61 [some (.ref z), a1, a2, a3, a4, a5, a6, a7, a8] (.ref z :: st) M x := Rs_next c248_60 rfl
theorem c248_61 : qx_code 248 61 = some (61, .aload_n 0, 62, 0, 0, 0) := by decide +kernel
theorem s248_61 {L : Nat} {xs : Nat → Int32} {d x : Nat} {M : qxM} {st : List Value} {a1 a2 a3 a4 a5 a6 a7 a8 : Option Value} {z : Nat} : Rs L xs (d) 248 61 [some (.ref z), a1, a2, a3, a4, a5, a6, a7, a8] st M x = Rs L xs (d) 248 62 [some (.ref z), a1, a2, a3, a4, a5, a6, a7, a8] (.ref z :: st) M x := Rs_next c248_61 rfl
theorem c248_62 : qx_code 248 62 = some (62, .getfield 9, 65, 8, 1, 1546) := by decide +kernel
theorem s248_62 {L : Nat} {xs : Nat → Int32} {d x : Nat} {M : qxM} {st : List Value} {ls : qxL} {t : Nat} (hk : qx_kd t = 18) : Rs L xs (d) 248 62 ls (.ref t :: st) M x = Rs L xs (d) 248 65 ls (.ref (t + 1) :: st) M x := Rs_when (qx_kd_obj (k := 8) (by decide) hk) c248_62 rfl
theorem c248_65 : qx_code 248 65 = some (65, .bipush 69, 67, 0, 0, 0) := by decide +kernel
theorem s248_65 {L : Nat} {xs : Nat → Int32} {d x : Nat} {M : qxM} {st : List Value} {ls : qxL} : Rs L xs (d) 248 65 ls st M x = Rs L xs (d) 248 67 ls (.int (nI 69) :: st) M x := Rs_next c248_65 rfl
theorem c248_67 : qx_code 248 67 = some (67, .iload_n 2, 68, 0, 0, 0) := by decide +kernel
theorem s248_67 {L : Nat} {xs : Nat → Int32} {d x : Nat} {M : qxM} {st : List Value} {a0 a1 a3 a4 a5 a6 a7 a8 : Option Value} {z : Int32} : Rs L xs (d) 248 67 [a0, a1, some (.int z), a3, a4, a5, a6, a7, a8] st M x = Rs L xs (d) 248 68 [a0, a1, some (.int z), a3, a4, a5, a6, a7, a8] (.int z :: st) M x := Rs_next c248_67 rfl
theorem c248_68 : qx_code 248 68 = some (68, .iadd, 69, 0, 0, 0) := by decide +kernel
theorem s248_68 {L : Nat} {xs : Nat → Int32} {d x : Nat} {M : qxM} {st : List Value} {ls : qxL} {z y : Int32} : Rs L xs (d) 248 68 ls (.int y :: .int z :: st) M x = Rs L xs (d) 248 69 ls (.int (z + y) :: st) M x := Rs_next c248_68 rfl
theorem c248_69 : qx_code 248 69 = some (69, .iaload, 70, 0, 0, 0) := by decide +kernel
theorem s248_69 {L : Nat} {xs : Nat → Int32} {d x : Nat} {M : qxM} {st : List Value} {ls : qxL} {t : Nat} {j : Int32} (hk : qx_kd t = 0) (hj : qx_ib j (qx_ln t) = true) : Rs L xs (d) 248 69 ls (.int j :: .ref t :: st) M x = Rs L xs (d) 248 70 ls (.int (M.1 t j.toNatClampNeg) :: st) M x := by
  have h1 := qx_kd_row (k := 0) (by decide) hk
  exact Rs_unless (qx_ib_not hj) c248_69 (by unfold qx_act; dsimp only; rw [h1]; rfl)
theorem c248_70 : qx_code 248 70 = some (70, .iload 4, 72, 0, 0, 0) := by decide +kernel
theorem s248_70 {L : Nat} {xs : Nat → Int32} {d x : Nat} {M : qxM} {st : List Value} {a0 a1 a2 a3 a5 a6 a7 a8 : Option Value} {z : Int32} : Rs L xs (d) 248 70 [a0, a1, a2, a3, some (.int z), a5, a6, a7, a8] st M x = Rs L xs (d) 248 72 [a0, a1, a2, a3, some (.int z), a5, a6, a7, a8] (.int z :: st) M x := Rs_next c248_70 rfl
theorem c248_72 : qx_code 248 72 = some (72, .invokevirtual 262, 75, 247, 3, 2113) := by decide +kernel
theorem s248_72 {L : Nat} {xs : Nat → Int32} {d x : Nat} {M : qxM} {st : List Value} {ls : qxL} {t : Nat} {z0 : Int32} {z1 : Int32} (hk : qx_kd t = 18) (hs : st.length ≤ 4) : Rs L xs (d + 1) 248 72 ls (.int z1 :: .int z0 :: .ref t :: st) M x = (Rs L xs d 247 0 [some (.ref t), some (.int z0), some (.int z1), none, none] [] M 0).bind (qx_kn L xs (d + 1) 248 72 75 247 ls st x) := by
  have h1 : qx_act L xs (qx_rt 248) (72, .invokevirtual 262, 75, 247, 3, 2113) ls (.int z1 :: .int z0 :: .ref t :: st) M = if 3 ≤ (.int z1 :: .int z0 :: .ref t :: st).length ∧ st.length ≤ 4 then some (.inr (.inr (.inr (247, [.ref t, .int z0, .int z1], st)))) else none := rfl
  rw [if_pos ⟨by simp [List.length_cons]; try omega, hs⟩] at h1
  have h2 := qx_kd_obj (k := 8) (by decide) hk
  exact Rs_call c248_72 h1 (by rw [show qx_args 247 [.ref t, .int z0, .int z1] = decide (qx_sh t = some (.inl 8)) from rfl]; exact decide_eq_true h2)
theorem c248_75 : qx_code 248 75 = some (75, .ior, 76, 0, 0, 0) := by decide +kernel
theorem s248_75 {L : Nat} {xs : Nat → Int32} {d x : Nat} {M : qxM} {st : List Value} {ls : qxL} {z y : Int32} : Rs L xs (d) 248 75 ls (.int y :: .int z :: st) M x = Rs L xs (d) 248 76 ls (.int (z ||| y) :: st) M x := Rs_next c248_75 rfl
theorem c248_76 : qx_code 248 76 = some (76, .istore 5, 78, 0, 0, 0) := by decide +kernel
theorem s248_76i {L : Nat} {xs : Nat → Int32} {d x : Nat} {M : qxM} {st : List Value} {a0 a1 a2 a3 a5 a6 a7 a8 : Option Value} {z : Int32} {y : Int32} : Rs L xs (d) 248 76 [a0, a1, a2, a3, some (.int y), a5, a6, a7, a8] (.int z :: st) M x = Rs L xs (d) 248 78 [a0, a1, a2, a3, some (.int y), some (.int z), a6, a7, a8] st M x := Rs_next c248_76 rfl
theorem s248_76r {L : Nat} {xs : Nat → Int32} {d x : Nat} {M : qxM} {st : List Value} {a0 a1 a2 a3 a5 a6 a7 a8 : Option Value} {z : Int32} {y : Nat} : Rs L xs (d) 248 76 [a0, a1, a2, a3, some (.ref y), a5, a6, a7, a8] (.int z :: st) M x = Rs L xs (d) 248 78 [a0, a1, a2, a3, some (.ref y), some (.int z), a6, a7, a8] st M x := Rs_next c248_76 rfl
theorem s248_76n {L : Nat} {xs : Nat → Int32} {d x : Nat} {M : qxM} {st : List Value} {a0 a1 a2 a3 a5 a6 a7 a8 : Option Value} {z : Int32} : Rs L xs (d) 248 76 [a0, a1, a2, a3, none, a5, a6, a7, a8] (.int z :: st) M x = Rs L xs (d) 248 78 [a0, a1, a2, a3, none, some (.int z), a6, a7, a8] st M x := Rs_next c248_76 rfl
theorem c248_78 : qx_code 248 78 = some (78, .aload_n 0, 79, 0, 0, 0) := by decide +kernel
theorem s248_78 {L : Nat} {xs : Nat → Int32} {d x : Nat} {M : qxM} {st : List Value} {a1 a2 a3 a4 a5 a6 a7 a8 : Option Value} {z : Nat} : Rs L xs (d) 248 78 [some (.ref z), a1, a2, a3, a4, a5, a6, a7, a8] st M x = Rs L xs (d) 248 79 [some (.ref z), a1, a2, a3, a4, a5, a6, a7, a8] (.ref z :: st) M x := Rs_next c248_78 rfl
theorem c248_79 : qx_code 248 79 = some (79, .iload_n 1, 80, 0, 0, 0) := by decide +kernel
theorem s248_79 {L : Nat} {xs : Nat → Int32} {d x : Nat} {M : qxM} {st : List Value} {a0 a2 a3 a4 a5 a6 a7 a8 : Option Value} {z : Int32} : Rs L xs (d) 248 79 [a0, some (.int z), a2, a3, a4, a5, a6, a7, a8] st M x = Rs L xs (d) 248 80 [a0, some (.int z), a2, a3, a4, a5, a6, a7, a8] (.int z :: st) M x := Rs_next c248_79 rfl
theorem c248_80 : qx_code 248 80 = some (80, .iload_n 2, 81, 0, 0, 0) := by decide +kernel
theorem s248_80 {L : Nat} {xs : Nat → Int32} {d x : Nat} {M : qxM} {st : List Value} {a0 a1 a3 a4 a5 a6 a7 a8 : Option Value} {z : Int32} : Rs L xs (d) 248 80 [a0, a1, some (.int z), a3, a4, a5, a6, a7, a8] st M x = Rs L xs (d) 248 81 [a0, a1, some (.int z), a3, a4, a5, a6, a7, a8] (.int z :: st) M x := Rs_next c248_80 rfl
theorem c248_81 : qx_code 248 81 = some (81, .iload 4, 83, 0, 0, 0) := by decide +kernel
theorem s248_81 {L : Nat} {xs : Nat → Int32} {d x : Nat} {M : qxM} {st : List Value} {a0 a1 a2 a3 a5 a6 a7 a8 : Option Value} {z : Int32} : Rs L xs (d) 248 81 [a0, a1, a2, a3, some (.int z), a5, a6, a7, a8] st M x = Rs L xs (d) 248 83 [a0, a1, a2, a3, some (.int z), a5, a6, a7, a8] (.int z :: st) M x := Rs_next c248_81 rfl
theorem c248_83 : qx_code 248 83 = some (83, .invokevirtual 265, 86, 246, 4, 2117) := by decide +kernel
theorem s248_83 {L : Nat} {xs : Nat → Int32} {d x : Nat} {M : qxM} {st : List Value} {ls : qxL} {t : Nat} {z0 : Int32} {z1 : Int32} {z2 : Int32} (hk : qx_kd t = 18) (hs : st.length ≤ 4) : Rs L xs (d + 1) 248 83 ls (.int z2 :: .int z1 :: .int z0 :: .ref t :: st) M x = (Rs L xs d 246 0 [some (.ref t), some (.int z0), some (.int z1), some (.int z2), none, none, none, none] [] M 0).bind (qx_kn L xs (d + 1) 248 83 86 246 ls st x) := by
  have h1 : qx_act L xs (qx_rt 248) (83, .invokevirtual 265, 86, 246, 4, 2117) ls (.int z2 :: .int z1 :: .int z0 :: .ref t :: st) M = if 4 ≤ (.int z2 :: .int z1 :: .int z0 :: .ref t :: st).length ∧ st.length ≤ 4 then some (.inr (.inr (.inr (246, [.ref t, .int z0, .int z1, .int z2], st)))) else none := rfl
  rw [if_pos ⟨by simp [List.length_cons]; try omega, hs⟩] at h1
  have h2 := qx_kd_obj (k := 8) (by decide) hk
  exact Rs_call c248_83 h1 (by rw [show qx_args 246 [.ref t, .int z0, .int z1, .int z2] = decide (qx_sh t = some (.inl 8)) from rfl]; exact decide_eq_true h2)
theorem c248_86 : qx_code 248 86 = some (86, .aload_n 0, 87, 0, 0, 0) := by decide +kernel
theorem s248_86 {L : Nat} {xs : Nat → Int32} {d x : Nat} {M : qxM} {st : List Value} {a1 a2 a3 a4 a5 a6 a7 a8 : Option Value} {z : Nat} : Rs L xs (d) 248 86 [some (.ref z), a1, a2, a3, a4, a5, a6, a7, a8] st M x = Rs L xs (d) 248 87 [some (.ref z), a1, a2, a3, a4, a5, a6, a7, a8] (.ref z :: st) M x := Rs_next c248_86 rfl
theorem c248_87 : qx_code 248 87 = some (87, .iload_n 2, 88, 0, 0, 0) := by decide +kernel
theorem s248_87 {L : Nat} {xs : Nat → Int32} {d x : Nat} {M : qxM} {st : List Value} {a0 a1 a3 a4 a5 a6 a7 a8 : Option Value} {z : Int32} : Rs L xs (d) 248 87 [a0, a1, some (.int z), a3, a4, a5, a6, a7, a8] st M x = Rs L xs (d) 248 88 [a0, a1, some (.int z), a3, a4, a5, a6, a7, a8] (.int z :: st) M x := Rs_next c248_87 rfl
theorem c248_88 : qx_code 248 88 = some (88, .iload_n 1, 89, 0, 0, 0) := by decide +kernel
theorem s248_88 {L : Nat} {xs : Nat → Int32} {d x : Nat} {M : qxM} {st : List Value} {a0 a2 a3 a4 a5 a6 a7 a8 : Option Value} {z : Int32} : Rs L xs (d) 248 88 [a0, some (.int z), a2, a3, a4, a5, a6, a7, a8] st M x = Rs L xs (d) 248 89 [a0, some (.int z), a2, a3, a4, a5, a6, a7, a8] (.int z :: st) M x := Rs_next c248_88 rfl
theorem c248_89 : qx_code 248 89 = some (89, .iload 4, 91, 0, 0, 0) := by decide +kernel
theorem s248_89 {L : Nat} {xs : Nat → Int32} {d x : Nat} {M : qxM} {st : List Value} {a0 a1 a2 a3 a5 a6 a7 a8 : Option Value} {z : Int32} : Rs L xs (d) 248 89 [a0, a1, a2, a3, some (.int z), a5, a6, a7, a8] st M x = Rs L xs (d) 248 91 [a0, a1, a2, a3, some (.int z), a5, a6, a7, a8] (.int z :: st) M x := Rs_next c248_89 rfl
theorem c248_91 : qx_code 248 91 = some (91, .invokevirtual 265, 94, 246, 4, 2117) := by decide +kernel
theorem s248_91 {L : Nat} {xs : Nat → Int32} {d x : Nat} {M : qxM} {st : List Value} {ls : qxL} {t : Nat} {z0 : Int32} {z1 : Int32} {z2 : Int32} (hk : qx_kd t = 18) (hs : st.length ≤ 4) : Rs L xs (d + 1) 248 91 ls (.int z2 :: .int z1 :: .int z0 :: .ref t :: st) M x = (Rs L xs d 246 0 [some (.ref t), some (.int z0), some (.int z1), some (.int z2), none, none, none, none] [] M 0).bind (qx_kn L xs (d + 1) 248 91 94 246 ls st x) := by
  have h1 : qx_act L xs (qx_rt 248) (91, .invokevirtual 265, 94, 246, 4, 2117) ls (.int z2 :: .int z1 :: .int z0 :: .ref t :: st) M = if 4 ≤ (.int z2 :: .int z1 :: .int z0 :: .ref t :: st).length ∧ st.length ≤ 4 then some (.inr (.inr (.inr (246, [.ref t, .int z0, .int z1, .int z2], st)))) else none := rfl
  rw [if_pos ⟨by simp [List.length_cons]; try omega, hs⟩] at h1
  have h2 := qx_kd_obj (k := 8) (by decide) hk
  exact Rs_call c248_91 h1 (by rw [show qx_args 246 [.ref t, .int z0, .int z1, .int z2] = decide (qx_sh t = some (.inl 8)) from rfl]; exact decide_eq_true h2)
theorem c248_94 : qx_code 248 94 = some (94, .ior, 95, 0, 0, 0) := by decide +kernel
theorem s248_94 {L : Nat} {xs : Nat → Int32} {d x : Nat} {M : qxM} {st : List Value} {ls : qxL} {z y : Int32} : Rs L xs (d) 248 94 ls (.int y :: .int z :: st) M x = Rs L xs (d) 248 95 ls (.int (z ||| y) :: st) M x := Rs_next c248_94 rfl
theorem c248_95 : qx_code 248 95 = some (95, .istore 6, 97, 0, 0, 0) := by decide +kernel
theorem s248_95i {L : Nat} {xs : Nat → Int32} {d x : Nat} {M : qxM} {st : List Value} {a0 a1 a2 a3 a4 a6 a7 a8 : Option Value} {z : Int32} {y : Int32} : Rs L xs (d) 248 95 [a0, a1, a2, a3, a4, some (.int y), a6, a7, a8] (.int z :: st) M x = Rs L xs (d) 248 97 [a0, a1, a2, a3, a4, some (.int y), some (.int z), a7, a8] st M x := Rs_next c248_95 rfl
theorem s248_95r {L : Nat} {xs : Nat → Int32} {d x : Nat} {M : qxM} {st : List Value} {a0 a1 a2 a3 a4 a6 a7 a8 : Option Value} {z : Int32} {y : Nat} : Rs L xs (d) 248 95 [a0, a1, a2, a3, a4, some (.ref y), a6, a7, a8] (.int z :: st) M x = Rs L xs (d) 248 97 [a0, a1, a2, a3, a4, some (.ref y), some (.int z), a7, a8] st M x := Rs_next c248_95 rfl
theorem s248_95n {L : Nat} {xs : Nat → Int32} {d x : Nat} {M : qxM} {st : List Value} {a0 a1 a2 a3 a4 a6 a7 a8 : Option Value} {z : Int32} : Rs L xs (d) 248 95 [a0, a1, a2, a3, a4, none, a6, a7, a8] (.int z :: st) M x = Rs L xs (d) 248 97 [a0, a1, a2, a3, a4, none, some (.int z), a7, a8] st M x := Rs_next c248_95 rfl
theorem c248_97 : qx_code 248 97 = some (97, .iconst 0, 98, 0, 0, 0) := by decide +kernel
theorem s248_97 {L : Nat} {xs : Nat → Int32} {d x : Nat} {M : qxM} {st : List Value} {ls : qxL} : Rs L xs (d) 248 97 ls st M x = Rs L xs (d) 248 98 ls (.int (nI 0) :: st) M x := Rs_next c248_97 rfl
theorem c248_98 : qx_code 248 98 = some (98, .istore 7, 100, 0, 0, 0) := by decide +kernel
theorem s248_98i {L : Nat} {xs : Nat → Int32} {d x : Nat} {M : qxM} {st : List Value} {a0 a1 a2 a3 a4 a5 a7 a8 : Option Value} {z : Int32} {y : Int32} : Rs L xs (d) 248 98 [a0, a1, a2, a3, a4, a5, some (.int y), a7, a8] (.int z :: st) M x = Rs L xs (d) 248 100 [a0, a1, a2, a3, a4, a5, some (.int y), some (.int z), a8] st M x := Rs_next c248_98 rfl
theorem s248_98r {L : Nat} {xs : Nat → Int32} {d x : Nat} {M : qxM} {st : List Value} {a0 a1 a2 a3 a4 a5 a7 a8 : Option Value} {z : Int32} {y : Nat} : Rs L xs (d) 248 98 [a0, a1, a2, a3, a4, a5, some (.ref y), a7, a8] (.int z :: st) M x = Rs L xs (d) 248 100 [a0, a1, a2, a3, a4, a5, some (.ref y), some (.int z), a8] st M x := Rs_next c248_98 rfl
theorem s248_98n {L : Nat} {xs : Nat → Int32} {d x : Nat} {M : qxM} {st : List Value} {a0 a1 a2 a3 a4 a5 a7 a8 : Option Value} {z : Int32} : Rs L xs (d) 248 98 [a0, a1, a2, a3, a4, a5, none, a7, a8] (.int z :: st) M x = Rs L xs (d) 248 100 [a0, a1, a2, a3, a4, a5, none, some (.int z), a8] st M x := Rs_next c248_98 rfl
theorem c248_100 : qx_code 248 100 = some (100, .iload 7, 102, 0, 0, 0) := by decide +kernel
theorem s248_100 {L : Nat} {xs : Nat → Int32} {d x : Nat} {M : qxM} {st : List Value} {a0 a1 a2 a3 a4 a5 a6 a8 : Option Value} {z : Int32} : Rs L xs (d) 248 100 [a0, a1, a2, a3, a4, a5, a6, some (.int z), a8] st M x = Rs L xs (d) 248 102 [a0, a1, a2, a3, a4, a5, a6, some (.int z), a8] (.int z :: st) M x := Rs_next c248_100 rfl
theorem c248_102 : qx_code 248 102 = some (102, .aload_n 0, 103, 0, 0, 0) := by decide +kernel
theorem s248_102 {L : Nat} {xs : Nat → Int32} {d x : Nat} {M : qxM} {st : List Value} {a1 a2 a3 a4 a5 a6 a7 a8 : Option Value} {z : Nat} : Rs L xs (d) 248 102 [some (.ref z), a1, a2, a3, a4, a5, a6, a7, a8] st M x = Rs L xs (d) 248 103 [some (.ref z), a1, a2, a3, a4, a5, a6, a7, a8] (.ref z :: st) M x := Rs_next c248_102 rfl
theorem c248_103 : qx_code 248 103 = some (103, .getfield 9, 106, 8, 1, 1546) := by decide +kernel
theorem s248_103 {L : Nat} {xs : Nat → Int32} {d x : Nat} {M : qxM} {st : List Value} {ls : qxL} {t : Nat} (hk : qx_kd t = 18) : Rs L xs (d) 248 103 ls (.ref t :: st) M x = Rs L xs (d) 248 106 ls (.ref (t + 1) :: st) M x := Rs_when (qx_kd_obj (k := 8) (by decide) hk) c248_103 rfl
theorem c248_106 : qx_code 248 106 = some (106, .iconst 0, 107, 0, 0, 0) := by decide +kernel
theorem s248_106 {L : Nat} {xs : Nat → Int32} {d x : Nat} {M : qxM} {st : List Value} {ls : qxL} : Rs L xs (d) 248 106 ls st M x = Rs L xs (d) 248 107 ls (.int (nI 0) :: st) M x := Rs_next c248_106 rfl
theorem c248_107 : qx_code 248 107 = some (107, .iaload, 108, 0, 0, 0) := by decide +kernel
theorem s248_107 {L : Nat} {xs : Nat → Int32} {d x : Nat} {M : qxM} {st : List Value} {ls : qxL} {t : Nat} {j : Int32} (hk : qx_kd t = 0) (hj : qx_ib j (qx_ln t) = true) : Rs L xs (d) 248 107 ls (.int j :: .ref t :: st) M x = Rs L xs (d) 248 108 ls (.int (M.1 t j.toNatClampNeg) :: st) M x := by
  have h1 := qx_kd_row (k := 0) (by decide) hk
  exact Rs_unless (qx_ib_not hj) c248_107 (by unfold qx_act; dsimp only; rw [h1]; rfl)
theorem c248_108 : qx_code 248 108 = some (108, .if_icmp .ge 74, 111, 182, 0, 0) := by decide +kernel
theorem s248_108 {L : Nat} {xs : Nat → Int32} {d x : Nat} {M : qxM} {st : List Value} {ls : qxL} {z y : Int32} : Rs L xs (d) 248 108 ls (.int y :: .int z :: st) M x = if y ≤ z then Rs L xs (d) 248 182 ls st M x else Rs L xs (d) 248 111 ls st M x := Rs_ite c248_108 rfl
theorem c248_111 : qx_code 248 111 = some (111, .iload 6, 113, 0, 0, 0) := by decide +kernel
theorem s248_111 {L : Nat} {xs : Nat → Int32} {d x : Nat} {M : qxM} {st : List Value} {a0 a1 a2 a3 a4 a5 a7 a8 : Option Value} {z : Int32} : Rs L xs (d) 248 111 [a0, a1, a2, a3, a4, a5, some (.int z), a7, a8] st M x = Rs L xs (d) 248 113 [a0, a1, a2, a3, a4, a5, some (.int z), a7, a8] (.int z :: st) M x := Rs_next c248_111 rfl
theorem c248_113 : qx_code 248 113 = some (113, .iload 7, 115, 0, 0, 0) := by decide +kernel
theorem s248_113 {L : Nat} {xs : Nat → Int32} {d x : Nat} {M : qxM} {st : List Value} {a0 a1 a2 a3 a4 a5 a6 a8 : Option Value} {z : Int32} : Rs L xs (d) 248 113 [a0, a1, a2, a3, a4, a5, a6, some (.int z), a8] st M x = Rs L xs (d) 248 115 [a0, a1, a2, a3, a4, a5, a6, some (.int z), a8] (.int z :: st) M x := Rs_next c248_113 rfl
theorem c248_115 : qx_code 248 115 = some (115, .invokestatic 128, 118, 208, 2, 1729) := by decide +kernel
theorem s248_115 {L : Nat} {xs : Nat → Int32} {d x : Nat} {M : qxM} {st : List Value} {ls : qxL} {z0 : Int32} {z1 : Int32} (hs : st.length ≤ 4) : Rs L xs (d + 1) 248 115 ls (.int z1 :: .int z0 :: st) M x = (Rs L xs d 208 0 [some (.int z0), some (.int z1)] [] M 0).bind (qx_kn L xs (d + 1) 248 115 118 208 ls st x) := by
  have h1 : qx_act L xs (qx_rt 248) (115, .invokestatic 128, 118, 208, 2, 1729) ls (.int z1 :: .int z0 :: st) M = if 2 ≤ (.int z1 :: .int z0 :: st).length ∧ st.length ≤ 4 then some (.inr (.inr (.inr (208, [.int z0, .int z1], st)))) else none := rfl
  rw [if_pos ⟨by simp [List.length_cons]; try omega, hs⟩] at h1
  exact Rs_call c248_115 h1 rfl
theorem c248_118 : qx_code 248 118 = some (118, .ifCond .eq 18, 121, 136, 0, 0) := by decide +kernel
theorem s248_118 {L : Nat} {xs : Nat → Int32} {d x : Nat} {M : qxM} {st : List Value} {ls : qxL} {z : Int32} : Rs L xs (d) 248 118 ls (.int z :: st) M x = if z = 0 then Rs L xs (d) 248 136 ls st M x else Rs L xs (d) 248 121 ls st M x := Rs_ite c248_118 rfl
theorem c248_121 : qx_code 248 121 = some (121, .aload_n 0, 122, 0, 0, 0) := by decide +kernel
theorem s248_121 {L : Nat} {xs : Nat → Int32} {d x : Nat} {M : qxM} {st : List Value} {a1 a2 a3 a4 a5 a6 a7 a8 : Option Value} {z : Nat} : Rs L xs (d) 248 121 [some (.ref z), a1, a2, a3, a4, a5, a6, a7, a8] st M x = Rs L xs (d) 248 122 [some (.ref z), a1, a2, a3, a4, a5, a6, a7, a8] (.ref z :: st) M x := Rs_next c248_121 rfl
theorem c248_122 : qx_code 248 122 = some (122, .iload 7, 124, 0, 0, 0) := by decide +kernel
theorem s248_122 {L : Nat} {xs : Nat → Int32} {d x : Nat} {M : qxM} {st : List Value} {a0 a1 a2 a3 a4 a5 a6 a8 : Option Value} {z : Int32} : Rs L xs (d) 248 122 [a0, a1, a2, a3, a4, a5, a6, some (.int z), a8] st M x = Rs L xs (d) 248 124 [a0, a1, a2, a3, a4, a5, a6, some (.int z), a8] (.int z :: st) M x := Rs_next c248_122 rfl
theorem c248_124 : qx_code 248 124 = some (124, .iconst 1, 125, 0, 0, 0) := by decide +kernel
theorem s248_124 {L : Nat} {xs : Nat → Int32} {d x : Nat} {M : qxM} {st : List Value} {ls : qxL} : Rs L xs (d) 248 124 ls st M x = Rs L xs (d) 248 125 ls (.int (nI 1) :: st) M x := Rs_next c248_124 rfl
theorem c248_125 : qx_code 248 125 = some (125, .invokevirtual 247, 128, 233, 3, 2077) := by decide +kernel
theorem s248_125 {L : Nat} {xs : Nat → Int32} {d x : Nat} {M : qxM} {st : List Value} {ls : qxL} {t : Nat} {z0 : Int32} {z1 : Int32} (hk : qx_kd t = 18) (hs : st.length ≤ 4) : Rs L xs (d + 1) 248 125 ls (.int z1 :: .int z0 :: .ref t :: st) M x = (Rs L xs d 233 0 [some (.ref t), some (.int z0), some (.int z1)] [] M 0).bind (qx_kn L xs (d + 1) 248 125 128 233 ls st x) := by
  have h1 : qx_act L xs (qx_rt 248) (125, .invokevirtual 247, 128, 233, 3, 2077) ls (.int z1 :: .int z0 :: .ref t :: st) M = if 3 ≤ (.int z1 :: .int z0 :: .ref t :: st).length ∧ st.length ≤ 4 then some (.inr (.inr (.inr (233, [.ref t, .int z0, .int z1], st)))) else none := rfl
  rw [if_pos ⟨by simp [List.length_cons]; try omega, hs⟩] at h1
  have h2 := qx_kd_obj (k := 8) (by decide) hk
  exact Rs_call c248_125 h1 (by rw [show qx_args 233 [.ref t, .int z0, .int z1] = decide (qx_sh t = some (.inl 8)) from rfl]; exact decide_eq_true h2)
theorem c248_128 : qx_code 248 128 = some (128, .istore 8, 130, 0, 0, 0) := by decide +kernel
theorem s248_128i {L : Nat} {xs : Nat → Int32} {d x : Nat} {M : qxM} {st : List Value} {a0 a1 a2 a3 a4 a5 a6 a8 : Option Value} {z : Int32} {y : Int32} : Rs L xs (d) 248 128 [a0, a1, a2, a3, a4, a5, a6, some (.int y), a8] (.int z :: st) M x = Rs L xs (d) 248 130 [a0, a1, a2, a3, a4, a5, a6, some (.int y), some (.int z)] st M x := Rs_next c248_128 rfl
theorem s248_128r {L : Nat} {xs : Nat → Int32} {d x : Nat} {M : qxM} {st : List Value} {a0 a1 a2 a3 a4 a5 a6 a8 : Option Value} {z : Int32} {y : Nat} : Rs L xs (d) 248 128 [a0, a1, a2, a3, a4, a5, a6, some (.ref y), a8] (.int z :: st) M x = Rs L xs (d) 248 130 [a0, a1, a2, a3, a4, a5, a6, some (.ref y), some (.int z)] st M x := Rs_next c248_128 rfl
theorem s248_128n {L : Nat} {xs : Nat → Int32} {d x : Nat} {M : qxM} {st : List Value} {a0 a1 a2 a3 a4 a5 a6 a8 : Option Value} {z : Int32} : Rs L xs (d) 248 128 [a0, a1, a2, a3, a4, a5, a6, none, a8] (.int z :: st) M x = Rs L xs (d) 248 130 [a0, a1, a2, a3, a4, a5, a6, none, some (.int z)] st M x := Rs_next c248_128 rfl
theorem c248_130 : qx_code 248 130 = some (130, .aload_n 0, 131, 0, 0, 0) := by decide +kernel
theorem s248_130 {L : Nat} {xs : Nat → Int32} {d x : Nat} {M : qxM} {st : List Value} {a1 a2 a3 a4 a5 a6 a7 a8 : Option Value} {z : Nat} : Rs L xs (d) 248 130 [some (.ref z), a1, a2, a3, a4, a5, a6, a7, a8] st M x = Rs L xs (d) 248 131 [some (.ref z), a1, a2, a3, a4, a5, a6, a7, a8] (.ref z :: st) M x := Rs_next c248_130 rfl
theorem c248_131 : qx_code 248 131 = some (131, .iload 7, 133, 0, 0, 0) := by decide +kernel
theorem s248_131 {L : Nat} {xs : Nat → Int32} {d x : Nat} {M : qxM} {st : List Value} {a0 a1 a2 a3 a4 a5 a6 a8 : Option Value} {z : Int32} : Rs L xs (d) 248 131 [a0, a1, a2, a3, a4, a5, a6, some (.int z), a8] st M x = Rs L xs (d) 248 133 [a0, a1, a2, a3, a4, a5, a6, some (.int z), a8] (.int z :: st) M x := Rs_next c248_131 rfl
theorem c248_133 : qx_code 248 133 = some (133, .invokevirtual 250, 136, 234, 2, 2085) := by decide +kernel
theorem s248_133 {L : Nat} {xs : Nat → Int32} {d x : Nat} {M : qxM} {st : List Value} {ls : qxL} {t : Nat} {z0 : Int32} (hk : qx_kd t = 18) (hs : st.length ≤ 4) : Rs L xs (d + 1) 248 133 ls (.int z0 :: .ref t :: st) M x = (Rs L xs d 234 0 [some (.ref t), some (.int z0)] [] M 0).bind (qx_kn L xs (d + 1) 248 133 136 234 ls st x) := by
  have h1 : qx_act L xs (qx_rt 248) (133, .invokevirtual 250, 136, 234, 2, 2085) ls (.int z0 :: .ref t :: st) M = if 2 ≤ (.int z0 :: .ref t :: st).length ∧ st.length ≤ 4 then some (.inr (.inr (.inr (234, [.ref t, .int z0], st)))) else none := rfl
  rw [if_pos ⟨by simp [List.length_cons]; try omega, hs⟩] at h1
  have h2 := qx_kd_obj (k := 8) (by decide) hk
  exact Rs_call c248_133 h1 (by rw [show qx_args 234 [.ref t, .int z0] = decide (qx_sh t = some (.inl 8)) from rfl]; exact decide_eq_true h2)
theorem c248_136 : qx_code 248 136 = some (136, .iload 6, 138, 0, 0, 0) := by decide +kernel
theorem s248_136 {L : Nat} {xs : Nat → Int32} {d x : Nat} {M : qxM} {st : List Value} {a0 a1 a2 a3 a4 a5 a7 a8 : Option Value} {z : Int32} : Rs L xs (d) 248 136 [a0, a1, a2, a3, a4, a5, some (.int z), a7, a8] st M x = Rs L xs (d) 248 138 [a0, a1, a2, a3, a4, a5, some (.int z), a7, a8] (.int z :: st) M x := Rs_next c248_136 rfl
theorem c248_138 : qx_code 248 138 = some (138, .iload 7, 140, 0, 0, 0) := by decide +kernel
theorem s248_138 {L : Nat} {xs : Nat → Int32} {d x : Nat} {M : qxM} {st : List Value} {a0 a1 a2 a3 a4 a5 a6 a8 : Option Value} {z : Int32} : Rs L xs (d) 248 138 [a0, a1, a2, a3, a4, a5, a6, some (.int z), a8] st M x = Rs L xs (d) 248 140 [a0, a1, a2, a3, a4, a5, a6, some (.int z), a8] (.int z :: st) M x := Rs_next c248_138 rfl
theorem c248_140 : qx_code 248 140 = some (140, .invokestatic 128, 143, 208, 2, 1729) := by decide +kernel
theorem s248_140 {L : Nat} {xs : Nat → Int32} {d x : Nat} {M : qxM} {st : List Value} {ls : qxL} {z0 : Int32} {z1 : Int32} (hs : st.length ≤ 4) : Rs L xs (d + 1) 248 140 ls (.int z1 :: .int z0 :: st) M x = (Rs L xs d 208 0 [some (.int z0), some (.int z1)] [] M 0).bind (qx_kn L xs (d + 1) 248 140 143 208 ls st x) := by
  have h1 : qx_act L xs (qx_rt 248) (140, .invokestatic 128, 143, 208, 2, 1729) ls (.int z1 :: .int z0 :: st) M = if 2 ≤ (.int z1 :: .int z0 :: st).length ∧ st.length ≤ 4 then some (.inr (.inr (.inr (208, [.int z0, .int z1], st)))) else none := rfl
  rw [if_pos ⟨by simp [List.length_cons]; try omega, hs⟩] at h1
  exact Rs_call c248_140 h1 rfl
theorem c248_143 : qx_code 248 143 = some (143, .ifCond .ne 21, 146, 164, 0, 0) := by decide +kernel
theorem s248_143 {L : Nat} {xs : Nat → Int32} {d x : Nat} {M : qxM} {st : List Value} {ls : qxL} {z : Int32} : Rs L xs (d) 248 143 ls (.int z :: st) M x = if z = 0 then Rs L xs (d) 248 146 ls st M x else Rs L xs (d) 248 164 ls st M x := Rs_ite c248_143 rfl
theorem c248_146 : qx_code 248 146 = some (146, .iload 5, 148, 0, 0, 0) := by decide +kernel
theorem s248_146 {L : Nat} {xs : Nat → Int32} {d x : Nat} {M : qxM} {st : List Value} {a0 a1 a2 a3 a4 a6 a7 a8 : Option Value} {z : Int32} : Rs L xs (d) 248 146 [a0, a1, a2, a3, a4, some (.int z), a6, a7, a8] st M x = Rs L xs (d) 248 148 [a0, a1, a2, a3, a4, some (.int z), a6, a7, a8] (.int z :: st) M x := Rs_next c248_146 rfl
theorem c248_148 : qx_code 248 148 = some (148, .aload_n 0, 149, 0, 0, 0) := by decide +kernel
theorem s248_148 {L : Nat} {xs : Nat → Int32} {d x : Nat} {M : qxM} {st : List Value} {a1 a2 a3 a4 a5 a6 a7 a8 : Option Value} {z : Nat} : Rs L xs (d) 248 148 [some (.ref z), a1, a2, a3, a4, a5, a6, a7, a8] st M x = Rs L xs (d) 248 149 [some (.ref z), a1, a2, a3, a4, a5, a6, a7, a8] (.ref z :: st) M x := Rs_next c248_148 rfl
theorem c248_149 : qx_code 248 149 = some (149, .getfield 9, 152, 8, 1, 1546) := by decide +kernel
theorem s248_149 {L : Nat} {xs : Nat → Int32} {d x : Nat} {M : qxM} {st : List Value} {ls : qxL} {t : Nat} (hk : qx_kd t = 18) : Rs L xs (d) 248 149 ls (.ref t :: st) M x = Rs L xs (d) 248 152 ls (.ref (t + 1) :: st) M x := Rs_when (qx_kd_obj (k := 8) (by decide) hk) c248_149 rfl
theorem c248_152 : qx_code 248 152 = some (152, .bipush 69, 154, 0, 0, 0) := by decide +kernel
theorem s248_152 {L : Nat} {xs : Nat → Int32} {d x : Nat} {M : qxM} {st : List Value} {ls : qxL} : Rs L xs (d) 248 152 ls st M x = Rs L xs (d) 248 154 ls (.int (nI 69) :: st) M x := Rs_next c248_152 rfl
theorem c248_154 : qx_code 248 154 = some (154, .iload 7, 156, 0, 0, 0) := by decide +kernel
theorem s248_154 {L : Nat} {xs : Nat → Int32} {d x : Nat} {M : qxM} {st : List Value} {a0 a1 a2 a3 a4 a5 a6 a8 : Option Value} {z : Int32} : Rs L xs (d) 248 154 [a0, a1, a2, a3, a4, a5, a6, some (.int z), a8] st M x = Rs L xs (d) 248 156 [a0, a1, a2, a3, a4, a5, a6, some (.int z), a8] (.int z :: st) M x := Rs_next c248_154 rfl
theorem c248_156 : qx_code 248 156 = some (156, .iadd, 157, 0, 0, 0) := by decide +kernel
theorem s248_156 {L : Nat} {xs : Nat → Int32} {d x : Nat} {M : qxM} {st : List Value} {ls : qxL} {z y : Int32} : Rs L xs (d) 248 156 ls (.int y :: .int z :: st) M x = Rs L xs (d) 248 157 ls (.int (z + y) :: st) M x := Rs_next c248_156 rfl
theorem c248_157 : qx_code 248 157 = some (157, .iaload, 158, 0, 0, 0) := by decide +kernel
theorem s248_157 {L : Nat} {xs : Nat → Int32} {d x : Nat} {M : qxM} {st : List Value} {ls : qxL} {t : Nat} {j : Int32} (hk : qx_kd t = 0) (hj : qx_ib j (qx_ln t) = true) : Rs L xs (d) 248 157 ls (.int j :: .ref t :: st) M x = Rs L xs (d) 248 158 ls (.int (M.1 t j.toNatClampNeg) :: st) M x := by
  have h1 := qx_kd_row (k := 0) (by decide) hk
  exact Rs_unless (qx_ib_not hj) c248_157 (by unfold qx_act; dsimp only; rw [h1]; rfl)
theorem c248_158 : qx_code 248 158 = some (158, .invokestatic 128, 161, 208, 2, 1729) := by decide +kernel
theorem s248_158 {L : Nat} {xs : Nat → Int32} {d x : Nat} {M : qxM} {st : List Value} {ls : qxL} {z0 : Int32} {z1 : Int32} (hs : st.length ≤ 4) : Rs L xs (d + 1) 248 158 ls (.int z1 :: .int z0 :: st) M x = (Rs L xs d 208 0 [some (.int z0), some (.int z1)] [] M 0).bind (qx_kn L xs (d + 1) 248 158 161 208 ls st x) := by
  have h1 : qx_act L xs (qx_rt 248) (158, .invokestatic 128, 161, 208, 2, 1729) ls (.int z1 :: .int z0 :: st) M = if 2 ≤ (.int z1 :: .int z0 :: st).length ∧ st.length ≤ 4 then some (.inr (.inr (.inr (208, [.int z0, .int z1], st)))) else none := rfl
  rw [if_pos ⟨by simp [List.length_cons]; try omega, hs⟩] at h1
  exact Rs_call c248_158 h1 rfl
theorem c248_161 : qx_code 248 161 = some (161, .ifCond .eq 15, 164, 176, 0, 0) := by decide +kernel
theorem s248_161 {L : Nat} {xs : Nat → Int32} {d x : Nat} {M : qxM} {st : List Value} {ls : qxL} {z : Int32} : Rs L xs (d) 248 161 ls (.int z :: st) M x = if z = 0 then Rs L xs (d) 248 176 ls st M x else Rs L xs (d) 248 164 ls st M x := Rs_ite c248_161 rfl
theorem c248_164 : qx_code 248 164 = some (164, .aload_n 0, 165, 0, 0, 0) := by decide +kernel
theorem s248_164 {L : Nat} {xs : Nat → Int32} {d x : Nat} {M : qxM} {st : List Value} {a1 a2 a3 a4 a5 a6 a7 a8 : Option Value} {z : Nat} : Rs L xs (d) 248 164 [some (.ref z), a1, a2, a3, a4, a5, a6, a7, a8] st M x = Rs L xs (d) 248 165 [some (.ref z), a1, a2, a3, a4, a5, a6, a7, a8] (.ref z :: st) M x := Rs_next c248_164 rfl
theorem c248_165 : qx_code 248 165 = some (165, .getfield 9, 168, 8, 1, 1546) := by decide +kernel
theorem s248_165 {L : Nat} {xs : Nat → Int32} {d x : Nat} {M : qxM} {st : List Value} {ls : qxL} {t : Nat} (hk : qx_kd t = 18) : Rs L xs (d) 248 165 ls (.ref t :: st) M x = Rs L xs (d) 248 168 ls (.ref (t + 1) :: st) M x := Rs_when (qx_kd_obj (k := 8) (by decide) hk) c248_165 rfl
theorem c248_168 : qx_code 248 168 = some (168, .bipush 69, 170, 0, 0, 0) := by decide +kernel
theorem s248_168 {L : Nat} {xs : Nat → Int32} {d x : Nat} {M : qxM} {st : List Value} {ls : qxL} : Rs L xs (d) 248 168 ls st M x = Rs L xs (d) 248 170 ls (.int (nI 69) :: st) M x := Rs_next c248_168 rfl
theorem c248_170 : qx_code 248 170 = some (170, .iload 7, 172, 0, 0, 0) := by decide +kernel
theorem s248_170 {L : Nat} {xs : Nat → Int32} {d x : Nat} {M : qxM} {st : List Value} {a0 a1 a2 a3 a4 a5 a6 a8 : Option Value} {z : Int32} : Rs L xs (d) 248 170 [a0, a1, a2, a3, a4, a5, a6, some (.int z), a8] st M x = Rs L xs (d) 248 172 [a0, a1, a2, a3, a4, a5, a6, some (.int z), a8] (.int z :: st) M x := Rs_next c248_170 rfl
theorem c248_172 : qx_code 248 172 = some (172, .iadd, 173, 0, 0, 0) := by decide +kernel
theorem s248_172 {L : Nat} {xs : Nat → Int32} {d x : Nat} {M : qxM} {st : List Value} {ls : qxL} {z y : Int32} : Rs L xs (d) 248 172 ls (.int y :: .int z :: st) M x = Rs L xs (d) 248 173 ls (.int (z + y) :: st) M x := Rs_next c248_172 rfl
theorem c248_173 : qx_code 248 173 = some (173, .iload 4, 175, 0, 0, 0) := by decide +kernel
theorem s248_173 {L : Nat} {xs : Nat → Int32} {d x : Nat} {M : qxM} {st : List Value} {a0 a1 a2 a3 a5 a6 a7 a8 : Option Value} {z : Int32} : Rs L xs (d) 248 173 [a0, a1, a2, a3, some (.int z), a5, a6, a7, a8] st M x = Rs L xs (d) 248 175 [a0, a1, a2, a3, some (.int z), a5, a6, a7, a8] (.int z :: st) M x := Rs_next c248_173 rfl
theorem c248_175 : qx_code 248 175 = some (175, .iastore, 176, 0, 0, 0) := by decide +kernel
theorem s248_175 {L : Nat} {xs : Nat → Int32} {d x : Nat} {M : qxM} {st : List Value} {ls : qxL} {t : Nat} {j : Int32} {z : Int32} (hk : qx_kd t = 0) (hj : qx_ib j (qx_ln t) = true) : Rs L xs (d) 248 175 ls (.int z :: .int j :: .ref t :: st) M x = Rs L xs (d) 248 176 ls st (qx_up M t j.toNatClampNeg z) x := by
  have h1 := qx_kd_row (k := 0) (by decide) hk
  exact Rs_unless (qx_ib_not hj) c248_175 (by unfold qx_act; dsimp only; rw [h1]; rfl)
theorem c248_176 : qx_code 248 176 = some (176, .iinc 7 1, 179, 0, 0, 0) := by decide +kernel
theorem s248_176i {L : Nat} {xs : Nat → Int32} {d x : Nat} {M : qxM} {st : List Value} {a0 a1 a2 a3 a4 a5 a8 : Option Value} {z : Int32} {y : Int32} : Rs L xs (d) 248 176 [a0, a1, a2, a3, a4, a5, some (.int y), some (.int z), a8] st M x = Rs L xs (d) 248 179 [a0, a1, a2, a3, a4, a5, some (.int y), some (.int (z + (nI 1))), a8] st M x := Rs_next c248_176 rfl
theorem s248_176r {L : Nat} {xs : Nat → Int32} {d x : Nat} {M : qxM} {st : List Value} {a0 a1 a2 a3 a4 a5 a8 : Option Value} {z : Int32} {y : Nat} : Rs L xs (d) 248 176 [a0, a1, a2, a3, a4, a5, some (.ref y), some (.int z), a8] st M x = Rs L xs (d) 248 179 [a0, a1, a2, a3, a4, a5, some (.ref y), some (.int (z + (nI 1))), a8] st M x := Rs_next c248_176 rfl
theorem s248_176n {L : Nat} {xs : Nat → Int32} {d x : Nat} {M : qxM} {st : List Value} {a0 a1 a2 a3 a4 a5 a8 : Option Value} {z : Int32} : Rs L xs (d) 248 176 [a0, a1, a2, a3, a4, a5, none, some (.int z), a8] st M x = Rs L xs (d) 248 179 [a0, a1, a2, a3, a4, a5, none, some (.int (z + (nI 1))), a8] st M x := Rs_next c248_176 rfl
theorem c248_179 : qx_code 248 179 = some (179, .goto (-79), 182, 100, 0, 0) := by decide +kernel
theorem s248_179 {L : Nat} {xs : Nat → Int32} {d x : Nat} {M : qxM} {st : List Value} {ls : qxL} : Rs L xs (d) 248 179 ls st M x = Rs L xs (d) 248 100 ls st M x := Rs_next c248_179 rfl
theorem c248_182 : qx_code 248 182 = some (182, .aload_n 0, 183, 0, 0, 0) := by decide +kernel
theorem s248_182 {L : Nat} {xs : Nat → Int32} {d x : Nat} {M : qxM} {st : List Value} {a1 a2 a3 a4 a5 a6 a7 a8 : Option Value} {z : Nat} : Rs L xs (d) 248 182 [some (.ref z), a1, a2, a3, a4, a5, a6, a7, a8] st M x = Rs L xs (d) 248 183 [some (.ref z), a1, a2, a3, a4, a5, a6, a7, a8] (.ref z :: st) M x := Rs_next c248_182 rfl
theorem c248_183 : qx_code 248 183 = some (183, .getfield 9, 186, 8, 1, 1546) := by decide +kernel
theorem s248_183 {L : Nat} {xs : Nat → Int32} {d x : Nat} {M : qxM} {st : List Value} {ls : qxL} {t : Nat} (hk : qx_kd t = 18) : Rs L xs (d) 248 183 ls (.ref t :: st) M x = Rs L xs (d) 248 186 ls (.ref (t + 1) :: st) M x := Rs_when (qx_kd_obj (k := 8) (by decide) hk) c248_183 rfl
theorem c248_186 : qx_code 248 186 = some (186, .bipush 38, 188, 0, 0, 0) := by decide +kernel
theorem s248_186 {L : Nat} {xs : Nat → Int32} {d x : Nat} {M : qxM} {st : List Value} {ls : qxL} : Rs L xs (d) 248 186 ls st M x = Rs L xs (d) 248 188 ls (.int (nI 38) :: st) M x := Rs_next c248_186 rfl
theorem c248_188 : qx_code 248 188 = some (188, .dup2, 189, 0, 0, 0) := by decide +kernel
theorem s248_188 {L : Nat} {xs : Nat → Int32} {d x : Nat} {M : qxM} {st : List Value} {ls : qxL} {z : Nat} {y : Int32} : Rs L xs (d) 248 188 ls (.int y :: .ref z :: st) M x = Rs L xs (d) 248 189 ls (.int y :: .ref z :: .int y :: .ref z :: st) M x := Rs_next c248_188 rfl
theorem c248_189 : qx_code 248 189 = some (189, .iaload, 190, 0, 0, 0) := by decide +kernel
theorem s248_189 {L : Nat} {xs : Nat → Int32} {d x : Nat} {M : qxM} {st : List Value} {ls : qxL} {t : Nat} {j : Int32} (hk : qx_kd t = 0) (hj : qx_ib j (qx_ln t) = true) : Rs L xs (d) 248 189 ls (.int j :: .ref t :: st) M x = Rs L xs (d) 248 190 ls (.int (M.1 t j.toNatClampNeg) :: st) M x := by
  have h1 := qx_kd_row (k := 0) (by decide) hk
  exact Rs_unless (qx_ib_not hj) c248_189 (by unfold qx_act; dsimp only; rw [h1]; rfl)
theorem c248_190 : qx_code 248 190 = some (190, .iconst 1, 191, 0, 0, 0) := by decide +kernel
theorem s248_190 {L : Nat} {xs : Nat → Int32} {d x : Nat} {M : qxM} {st : List Value} {ls : qxL} : Rs L xs (d) 248 190 ls st M x = Rs L xs (d) 248 191 ls (.int (nI 1) :: st) M x := Rs_next c248_190 rfl
theorem c248_191 : qx_code 248 191 = some (191, .iadd, 192, 0, 0, 0) := by decide +kernel
theorem s248_191 {L : Nat} {xs : Nat → Int32} {d x : Nat} {M : qxM} {st : List Value} {ls : qxL} {z y : Int32} : Rs L xs (d) 248 191 ls (.int y :: .int z :: st) M x = Rs L xs (d) 248 192 ls (.int (z + y) :: st) M x := Rs_next c248_191 rfl
theorem c248_192 : qx_code 248 192 = some (192, .iastore, 193, 0, 0, 0) := by decide +kernel
theorem s248_192 {L : Nat} {xs : Nat → Int32} {d x : Nat} {M : qxM} {st : List Value} {ls : qxL} {t : Nat} {j : Int32} {z : Int32} (hk : qx_kd t = 0) (hj : qx_ib j (qx_ln t) = true) : Rs L xs (d) 248 192 ls (.int z :: .int j :: .ref t :: st) M x = Rs L xs (d) 248 193 ls st (qx_up M t j.toNatClampNeg z) x := by
  have h1 := qx_kd_row (k := 0) (by decide) hk
  exact Rs_unless (qx_ib_not hj) c248_192 (by unfold qx_act; dsimp only; rw [h1]; rfl)
theorem c248_193 : qx_code 248 193 = some (193, .aload_n 0, 194, 0, 0, 0) := by decide +kernel
theorem s248_193 {L : Nat} {xs : Nat → Int32} {d x : Nat} {M : qxM} {st : List Value} {a1 a2 a3 a4 a5 a6 a7 a8 : Option Value} {z : Nat} : Rs L xs (d) 248 193 [some (.ref z), a1, a2, a3, a4, a5, a6, a7, a8] st M x = Rs L xs (d) 248 194 [some (.ref z), a1, a2, a3, a4, a5, a6, a7, a8] (.ref z :: st) M x := Rs_next c248_193 rfl
theorem c248_194 : qx_code 248 194 = some (194, .getfield 9, 197, 8, 1, 1546) := by decide +kernel
theorem s248_194 {L : Nat} {xs : Nat → Int32} {d x : Nat} {M : qxM} {st : List Value} {ls : qxL} {t : Nat} (hk : qx_kd t = 18) : Rs L xs (d) 248 194 ls (.ref t :: st) M x = Rs L xs (d) 248 197 ls (.ref (t + 1) :: st) M x := Rs_when (qx_kd_obj (k := 8) (by decide) hk) c248_194 rfl
theorem c248_197 : qx_code 248 197 = some (197, .iconst 5, 198, 0, 0, 0) := by decide +kernel
theorem s248_197 {L : Nat} {xs : Nat → Int32} {d x : Nat} {M : qxM} {st : List Value} {ls : qxL} : Rs L xs (d) 248 197 ls st M x = Rs L xs (d) 248 198 ls (.int (nI 5) :: st) M x := Rs_next c248_197 rfl
theorem c248_198 : qx_code 248 198 = some (198, .dup2, 199, 0, 0, 0) := by decide +kernel
theorem s248_198 {L : Nat} {xs : Nat → Int32} {d x : Nat} {M : qxM} {st : List Value} {ls : qxL} {z : Nat} {y : Int32} : Rs L xs (d) 248 198 ls (.int y :: .ref z :: st) M x = Rs L xs (d) 248 199 ls (.int y :: .ref z :: .int y :: .ref z :: st) M x := Rs_next c248_198 rfl
theorem c248_199 : qx_code 248 199 = some (199, .iaload, 200, 0, 0, 0) := by decide +kernel
theorem s248_199 {L : Nat} {xs : Nat → Int32} {d x : Nat} {M : qxM} {st : List Value} {ls : qxL} {t : Nat} {j : Int32} (hk : qx_kd t = 0) (hj : qx_ib j (qx_ln t) = true) : Rs L xs (d) 248 199 ls (.int j :: .ref t :: st) M x = Rs L xs (d) 248 200 ls (.int (M.1 t j.toNatClampNeg) :: st) M x := by
  have h1 := qx_kd_row (k := 0) (by decide) hk
  exact Rs_unless (qx_ib_not hj) c248_199 (by unfold qx_act; dsimp only; rw [h1]; rfl)
theorem c248_200 : qx_code 248 200 = some (200, .iconst 1, 201, 0, 0, 0) := by decide +kernel
theorem s248_200 {L : Nat} {xs : Nat → Int32} {d x : Nat} {M : qxM} {st : List Value} {ls : qxL} : Rs L xs (d) 248 200 ls st M x = Rs L xs (d) 248 201 ls (.int (nI 1) :: st) M x := Rs_next c248_200 rfl
theorem c248_201 : qx_code 248 201 = some (201, .iadd, 202, 0, 0, 0) := by decide +kernel
theorem s248_201 {L : Nat} {xs : Nat → Int32} {d x : Nat} {M : qxM} {st : List Value} {ls : qxL} {z y : Int32} : Rs L xs (d) 248 201 ls (.int y :: .int z :: st) M x = Rs L xs (d) 248 202 ls (.int (z + y) :: st) M x := Rs_next c248_201 rfl
theorem c248_202 : qx_code 248 202 = some (202, .iastore, 203, 0, 0, 0) := by decide +kernel
theorem s248_202 {L : Nat} {xs : Nat → Int32} {d x : Nat} {M : qxM} {st : List Value} {ls : qxL} {t : Nat} {j : Int32} {z : Int32} (hk : qx_kd t = 0) (hj : qx_ib j (qx_ln t) = true) : Rs L xs (d) 248 202 ls (.int z :: .int j :: .ref t :: st) M x = Rs L xs (d) 248 203 ls st (qx_up M t j.toNatClampNeg z) x := by
  have h1 := qx_kd_row (k := 0) (by decide) hk
  exact Rs_unless (qx_ib_not hj) c248_202 (by unfold qx_act; dsimp only; rw [h1]; rfl)
theorem c248_203 : qx_code 248 203 = some (203, .iconst 2, 204, 0, 0, 0) := by decide +kernel
theorem s248_203 {L : Nat} {xs : Nat → Int32} {d x : Nat} {M : qxM} {st : List Value} {ls : qxL} : Rs L xs (d) 248 203 ls st M x = Rs L xs (d) 248 204 ls (.int (nI 2) :: st) M x := Rs_next c248_203 rfl
theorem c248_204 : qx_code 248 204 = some (204, .ireturn, 205, 0, 0, 0) := by decide +kernel
theorem s248_204 {L : Nat} {xs : Nat → Int32} {d x : Nat} {M : qxM} {ls : qxL} {z : Int32} : Rs L xs (d) 248 204 ls [.int z] M x = some (.inl (some (.int z)), M, x) := Rs_ret c248_204 rfl
theorem c249_0 : qx_code 249 0 = some (0, .aload_n 0, 1, 0, 0, 0) := by decide +kernel
theorem s249_0 {L : Nat} {xs : Nat → Int32} {d x : Nat} {M : qxM} {st : List Value} {a1 a2 : Option Value} {z : Nat} : Rs L xs (d) 249 0 [some (.ref z), a1, a2] st M x = Rs L xs (d) 249 1 [some (.ref z), a1, a2] (.ref z :: st) M x := Rs_next c249_0 rfl
theorem c249_1 : qx_code 249 1 = some (1, .getfield 9, 4, 8, 1, 1546) := by decide +kernel
theorem s249_1 {L : Nat} {xs : Nat → Int32} {d x : Nat} {M : qxM} {st : List Value} {ls : qxL} {t : Nat} (hk : qx_kd t = 18) : Rs L xs (d) 249 1 ls (.ref t :: st) M x = Rs L xs (d) 249 4 ls (.ref (t + 1) :: st) M x := Rs_when (qx_kd_obj (k := 8) (by decide) hk) c249_1 rfl
theorem c249_4 : qx_code 249 4 = some (4, .bipush 37, 6, 0, 0, 0) := by decide +kernel
theorem s249_4 {L : Nat} {xs : Nat → Int32} {d x : Nat} {M : qxM} {st : List Value} {ls : qxL} : Rs L xs (d) 249 4 ls st M x = Rs L xs (d) 249 6 ls (.int (nI 37) :: st) M x := Rs_next c249_4 rfl
theorem c249_6 : qx_code 249 6 = some (6, .dup2, 7, 0, 0, 0) := by decide +kernel
theorem s249_6 {L : Nat} {xs : Nat → Int32} {d x : Nat} {M : qxM} {st : List Value} {ls : qxL} {z : Nat} {y : Int32} : Rs L xs (d) 249 6 ls (.int y :: .ref z :: st) M x = Rs L xs (d) 249 7 ls (.int y :: .ref z :: .int y :: .ref z :: st) M x := Rs_next c249_6 rfl
theorem c249_7 : qx_code 249 7 = some (7, .iaload, 8, 0, 0, 0) := by decide +kernel
theorem s249_7 {L : Nat} {xs : Nat → Int32} {d x : Nat} {M : qxM} {st : List Value} {ls : qxL} {t : Nat} {j : Int32} (hk : qx_kd t = 0) (hj : qx_ib j (qx_ln t) = true) : Rs L xs (d) 249 7 ls (.int j :: .ref t :: st) M x = Rs L xs (d) 249 8 ls (.int (M.1 t j.toNatClampNeg) :: st) M x := by
  have h1 := qx_kd_row (k := 0) (by decide) hk
  exact Rs_unless (qx_ib_not hj) c249_7 (by unfold qx_act; dsimp only; rw [h1]; rfl)
theorem c249_8 : qx_code 249 8 = some (8, .iconst 1, 9, 0, 0, 0) := by decide +kernel
theorem s249_8 {L : Nat} {xs : Nat → Int32} {d x : Nat} {M : qxM} {st : List Value} {ls : qxL} : Rs L xs (d) 249 8 ls st M x = Rs L xs (d) 249 9 ls (.int (nI 1) :: st) M x := Rs_next c249_8 rfl
theorem c249_9 : qx_code 249 9 = some (9, .iadd, 10, 0, 0, 0) := by decide +kernel
theorem s249_9 {L : Nat} {xs : Nat → Int32} {d x : Nat} {M : qxM} {st : List Value} {ls : qxL} {z y : Int32} : Rs L xs (d) 249 9 ls (.int y :: .int z :: st) M x = Rs L xs (d) 249 10 ls (.int (z + y) :: st) M x := Rs_next c249_9 rfl
theorem c249_10 : qx_code 249 10 = some (10, .iastore, 11, 0, 0, 0) := by decide +kernel
theorem s249_10 {L : Nat} {xs : Nat → Int32} {d x : Nat} {M : qxM} {st : List Value} {ls : qxL} {t : Nat} {j : Int32} {z : Int32} (hk : qx_kd t = 0) (hj : qx_ib j (qx_ln t) = true) : Rs L xs (d) 249 10 ls (.int z :: .int j :: .ref t :: st) M x = Rs L xs (d) 249 11 ls st (qx_up M t j.toNatClampNeg z) x := by
  have h1 := qx_kd_row (k := 0) (by decide) hk
  exact Rs_unless (qx_ib_not hj) c249_10 (by unfold qx_act; dsimp only; rw [h1]; rfl)
theorem c249_11 : qx_code 249 11 = some (11, .aload_n 0, 12, 0, 0, 0) := by decide +kernel
theorem s249_11 {L : Nat} {xs : Nat → Int32} {d x : Nat} {M : qxM} {st : List Value} {a1 a2 : Option Value} {z : Nat} : Rs L xs (d) 249 11 [some (.ref z), a1, a2] st M x = Rs L xs (d) 249 12 [some (.ref z), a1, a2] (.ref z :: st) M x := Rs_next c249_11 rfl
theorem c249_12 : qx_code 249 12 = some (12, .getfield 9, 15, 8, 1, 1546) := by decide +kernel
theorem s249_12 {L : Nat} {xs : Nat → Int32} {d x : Nat} {M : qxM} {st : List Value} {ls : qxL} {t : Nat} (hk : qx_kd t = 18) : Rs L xs (d) 249 12 ls (.ref t :: st) M x = Rs L xs (d) 249 15 ls (.ref (t + 1) :: st) M x := Rs_when (qx_kd_obj (k := 8) (by decide) hk) c249_12 rfl
theorem c249_15 : qx_code 249 15 = some (15, .bipush 41, 17, 0, 0, 0) := by decide +kernel
theorem s249_15 {L : Nat} {xs : Nat → Int32} {d x : Nat} {M : qxM} {st : List Value} {ls : qxL} : Rs L xs (d) 249 15 ls st M x = Rs L xs (d) 249 17 ls (.int (nI 41) :: st) M x := Rs_next c249_15 rfl
theorem c249_17 : qx_code 249 17 = some (17, .iaload, 18, 0, 0, 0) := by decide +kernel
theorem s249_17 {L : Nat} {xs : Nat → Int32} {d x : Nat} {M : qxM} {st : List Value} {ls : qxL} {t : Nat} {j : Int32} (hk : qx_kd t = 0) (hj : qx_ib j (qx_ln t) = true) : Rs L xs (d) 249 17 ls (.int j :: .ref t :: st) M x = Rs L xs (d) 249 18 ls (.int (M.1 t j.toNatClampNeg) :: st) M x := by
  have h1 := qx_kd_row (k := 0) (by decide) hk
  exact Rs_unless (qx_ib_not hj) c249_17 (by unfold qx_act; dsimp only; rw [h1]; rfl)
theorem c249_18 : qx_code 249 18 = some (18, .istore_n 1, 19, 0, 0, 0) := by decide +kernel
theorem s249_18i {L : Nat} {xs : Nat → Int32} {d x : Nat} {M : qxM} {st : List Value} {a1 a2 : Option Value} {z : Int32} {y : Int32} : Rs L xs (d) 249 18 [some (.int y), a1, a2] (.int z :: st) M x = Rs L xs (d) 249 19 [some (.int y), some (.int z), a2] st M x := Rs_next c249_18 rfl
theorem s249_18r {L : Nat} {xs : Nat → Int32} {d x : Nat} {M : qxM} {st : List Value} {a1 a2 : Option Value} {z : Int32} {y : Nat} : Rs L xs (d) 249 18 [some (.ref y), a1, a2] (.int z :: st) M x = Rs L xs (d) 249 19 [some (.ref y), some (.int z), a2] st M x := Rs_next c249_18 rfl
theorem s249_18n {L : Nat} {xs : Nat → Int32} {d x : Nat} {M : qxM} {st : List Value} {a1 a2 : Option Value} {z : Int32} : Rs L xs (d) 249 18 [none, a1, a2] (.int z :: st) M x = Rs L xs (d) 249 19 [none, some (.int z), a2] st M x := Rs_next c249_18 rfl
theorem c249_19 : qx_code 249 19 = some (19, .aload_n 0, 20, 0, 0, 0) := by decide +kernel
theorem s249_19 {L : Nat} {xs : Nat → Int32} {d x : Nat} {M : qxM} {st : List Value} {a1 a2 : Option Value} {z : Nat} : Rs L xs (d) 249 19 [some (.ref z), a1, a2] st M x = Rs L xs (d) 249 20 [some (.ref z), a1, a2] (.ref z :: st) M x := Rs_next c249_19 rfl
theorem c249_20 : qx_code 249 20 = some (20, .invokevirtual 269, 23, 240, 1, 1894) := by decide +kernel
theorem s249_20 {L : Nat} {xs : Nat → Int32} {d x : Nat} {M : qxM} {st : List Value} {ls : qxL} {t : Nat} (hk : qx_kd t = 18) (hs : st.length ≤ 4) : Rs L xs (d + 1) 249 20 ls (.ref t :: st) M x = (Rs L xs d 240 0 [some (.ref t), none] [] M 0).bind (qx_kn L xs (d + 1) 249 20 23 240 ls st x) := by
  have h1 : qx_act L xs (qx_rt 249) (20, .invokevirtual 269, 23, 240, 1, 1894) ls (.ref t :: st) M = if 1 ≤ (.ref t :: st).length ∧ st.length ≤ 4 then some (.inr (.inr (.inr (240, [.ref t], st)))) else none := rfl
  rw [if_pos ⟨by simp [List.length_cons]; try omega, hs⟩] at h1
  have h2 := qx_kd_obj (k := 8) (by decide) hk
  exact Rs_call c249_20 h1 (by rw [show qx_args 240 [.ref t] = decide (qx_sh t = some (.inl 8)) from rfl]; exact decide_eq_true h2)
theorem c249_23 : qx_code 249 23 = some (23, .istore_n 2, 24, 0, 0, 0) := by decide +kernel
theorem s249_23i {L : Nat} {xs : Nat → Int32} {d x : Nat} {M : qxM} {st : List Value} {a0 a2 : Option Value} {z : Int32} {y : Int32} : Rs L xs (d) 249 23 [a0, some (.int y), a2] (.int z :: st) M x = Rs L xs (d) 249 24 [a0, some (.int y), some (.int z)] st M x := Rs_next c249_23 rfl
theorem s249_23r {L : Nat} {xs : Nat → Int32} {d x : Nat} {M : qxM} {st : List Value} {a0 a2 : Option Value} {z : Int32} {y : Nat} : Rs L xs (d) 249 23 [a0, some (.ref y), a2] (.int z :: st) M x = Rs L xs (d) 249 24 [a0, some (.ref y), some (.int z)] st M x := Rs_next c249_23 rfl
theorem s249_23n {L : Nat} {xs : Nat → Int32} {d x : Nat} {M : qxM} {st : List Value} {a0 a2 : Option Value} {z : Int32} : Rs L xs (d) 249 23 [a0, none, a2] (.int z :: st) M x = Rs L xs (d) 249 24 [a0, none, some (.int z)] st M x := Rs_next c249_23 rfl
theorem c249_24 : qx_code 249 24 = some (24, .iload_n 2, 25, 0, 0, 0) := by decide +kernel
theorem s249_24 {L : Nat} {xs : Nat → Int32} {d x : Nat} {M : qxM} {st : List Value} {a0 a1 : Option Value} {z : Int32} : Rs L xs (d) 249 24 [a0, a1, some (.int z)] st M x = Rs L xs (d) 249 25 [a0, a1, some (.int z)] (.int z :: st) M x := Rs_next c249_24 rfl
theorem c249_25 : qx_code 249 25 = some (25, .iconst (-1), 26, 0, 0, 0) := by decide +kernel
theorem s249_25 {L : Nat} {xs : Nat → Int32} {d x : Nat} {M : qxM} {st : List Value} {ls : qxL} : Rs L xs (d) 249 25 ls st M x = Rs L xs (d) 249 26 ls (.int (-1) :: st) M x := Rs_next c249_25 rfl
theorem c249_26 : qx_code 249 26 = some (26, .if_icmp .ne 8, 29, 34, 0, 0) := by decide +kernel
theorem s249_26 {L : Nat} {xs : Nat → Int32} {d x : Nat} {M : qxM} {st : List Value} {ls : qxL} {z y : Int32} : Rs L xs (d) 249 26 ls (.int y :: .int z :: st) M x = if z = y then Rs L xs (d) 249 29 ls st M x else Rs L xs (d) 249 34 ls st M x := Rs_ite c249_26 rfl
theorem c249_29 : qx_code 249 29 = some (29, .aload_n 0, 30, 0, 0, 0) := by decide +kernel
theorem s249_29 {L : Nat} {xs : Nat → Int32} {d x : Nat} {M : qxM} {st : List Value} {a1 a2 : Option Value} {z : Nat} : Rs L xs (d) 249 29 [some (.ref z), a1, a2] st M x = Rs L xs (d) 249 30 [some (.ref z), a1, a2] (.ref z :: st) M x := Rs_next c249_29 rfl
theorem c249_30 : qx_code 249 30 = some (30, .invokevirtual 272, 33, 241, 1, 2097) := by decide +kernel
theorem s249_30 {L : Nat} {xs : Nat → Int32} {d x : Nat} {M : qxM} {st : List Value} {ls : qxL} {t : Nat} (hk : qx_kd t = 18) (hs : st.length ≤ 4) : Rs L xs (d + 1) 249 30 ls (.ref t :: st) M x = (Rs L xs d 241 0 [some (.ref t), none] [] M 0).bind (qx_kn L xs (d + 1) 249 30 33 241 ls st x) := by
  have h1 : qx_act L xs (qx_rt 249) (30, .invokevirtual 272, 33, 241, 1, 2097) ls (.ref t :: st) M = if 1 ≤ (.ref t :: st).length ∧ st.length ≤ 4 then some (.inr (.inr (.inr (241, [.ref t], st)))) else none := rfl
  rw [if_pos ⟨by simp [List.length_cons]; try omega, hs⟩] at h1
  have h2 := qx_kd_obj (k := 8) (by decide) hk
  exact Rs_call c249_30 h1 (by rw [show qx_args 241 [.ref t] = decide (qx_sh t = some (.inl 8)) from rfl]; exact decide_eq_true h2)
theorem c249_33 : qx_code 249 33 = some (33, .ireturn, 34, 0, 0, 0) := by decide +kernel
theorem s249_33 {L : Nat} {xs : Nat → Int32} {d x : Nat} {M : qxM} {ls : qxL} {z : Int32} : Rs L xs (d) 249 33 ls [.int z] M x = some (.inl (some (.int z)), M, x) := Rs_ret c249_33 rfl
theorem c249_34 : qx_code 249 34 = some (34, .aload_n 0, 35, 0, 0, 0) := by decide +kernel
theorem s249_34 {L : Nat} {xs : Nat → Int32} {d x : Nat} {M : qxM} {st : List Value} {a1 a2 : Option Value} {z : Nat} : Rs L xs (d) 249 34 [some (.ref z), a1, a2] st M x = Rs L xs (d) 249 35 [some (.ref z), a1, a2] (.ref z :: st) M x := Rs_next c249_34 rfl
theorem c249_35 : qx_code 249 35 = some (35, .getfield 9, 38, 8, 1, 1546) := by decide +kernel
theorem s249_35 {L : Nat} {xs : Nat → Int32} {d x : Nat} {M : qxM} {st : List Value} {ls : qxL} {t : Nat} (hk : qx_kd t = 18) : Rs L xs (d) 249 35 ls (.ref t :: st) M x = Rs L xs (d) 249 38 ls (.ref (t + 1) :: st) M x := Rs_when (qx_kd_obj (k := 8) (by decide) hk) c249_35 rfl
theorem c249_38 : qx_code 249 38 = some (38, .bipush 39, 40, 0, 0, 0) := by decide +kernel
theorem s249_38 {L : Nat} {xs : Nat → Int32} {d x : Nat} {M : qxM} {st : List Value} {ls : qxL} : Rs L xs (d) 249 38 ls st M x = Rs L xs (d) 249 40 ls (.int (nI 39) :: st) M x := Rs_next c249_38 rfl
theorem c249_40 : qx_code 249 40 = some (40, .iload_n 2, 41, 0, 0, 0) := by decide +kernel
theorem s249_40 {L : Nat} {xs : Nat → Int32} {d x : Nat} {M : qxM} {st : List Value} {a0 a1 : Option Value} {z : Int32} : Rs L xs (d) 249 40 [a0, a1, some (.int z)] st M x = Rs L xs (d) 249 41 [a0, a1, some (.int z)] (.int z :: st) M x := Rs_next c249_40 rfl
theorem c249_41 : qx_code 249 41 = some (41, .iconst 1, 42, 0, 0, 0) := by decide +kernel
theorem s249_41 {L : Nat} {xs : Nat → Int32} {d x : Nat} {M : qxM} {st : List Value} {ls : qxL} : Rs L xs (d) 249 41 ls st M x = Rs L xs (d) 249 42 ls (.int (nI 1) :: st) M x := Rs_next c249_41 rfl
theorem c249_42 : qx_code 249 42 = some (42, .iadd, 43, 0, 0, 0) := by decide +kernel
theorem s249_42 {L : Nat} {xs : Nat → Int32} {d x : Nat} {M : qxM} {st : List Value} {ls : qxL} {z y : Int32} : Rs L xs (d) 249 42 ls (.int y :: .int z :: st) M x = Rs L xs (d) 249 43 ls (.int (z + y) :: st) M x := Rs_next c249_42 rfl
theorem c249_43 : qx_code 249 43 = some (43, .iastore, 44, 0, 0, 0) := by decide +kernel
theorem s249_43 {L : Nat} {xs : Nat → Int32} {d x : Nat} {M : qxM} {st : List Value} {ls : qxL} {t : Nat} {j : Int32} {z : Int32} (hk : qx_kd t = 0) (hj : qx_ib j (qx_ln t) = true) : Rs L xs (d) 249 43 ls (.int z :: .int j :: .ref t :: st) M x = Rs L xs (d) 249 44 ls st (qx_up M t j.toNatClampNeg z) x := by
  have h1 := qx_kd_row (k := 0) (by decide) hk
  exact Rs_unless (qx_ib_not hj) c249_43 (by unfold qx_act; dsimp only; rw [h1]; rfl)
theorem c249_44 : qx_code 249 44 = some (44, .aload_n 0, 45, 0, 0, 0) := by decide +kernel
theorem s249_44 {L : Nat} {xs : Nat → Int32} {d x : Nat} {M : qxM} {st : List Value} {a1 a2 : Option Value} {z : Nat} : Rs L xs (d) 249 44 [some (.ref z), a1, a2] st M x = Rs L xs (d) 249 45 [some (.ref z), a1, a2] (.ref z :: st) M x := Rs_next c249_44 rfl
theorem c249_45 : qx_code 249 45 = some (45, .getfield 9, 48, 8, 1, 1546) := by decide +kernel
theorem s249_45 {L : Nat} {xs : Nat → Int32} {d x : Nat} {M : qxM} {st : List Value} {ls : qxL} {t : Nat} (hk : qx_kd t = 18) : Rs L xs (d) 249 45 ls (.ref t :: st) M x = Rs L xs (d) 249 48 ls (.ref (t + 1) :: st) M x := Rs_when (qx_kd_obj (k := 8) (by decide) hk) c249_45 rfl
theorem c249_48 : qx_code 249 48 = some (48, .bipush 55, 50, 0, 0, 0) := by decide +kernel
theorem s249_48 {L : Nat} {xs : Nat → Int32} {d x : Nat} {M : qxM} {st : List Value} {ls : qxL} : Rs L xs (d) 249 48 ls st M x = Rs L xs (d) 249 50 ls (.int (nI 55) :: st) M x := Rs_next c249_48 rfl
theorem c249_50 : qx_code 249 50 = some (50, .iload_n 2, 51, 0, 0, 0) := by decide +kernel
theorem s249_50 {L : Nat} {xs : Nat → Int32} {d x : Nat} {M : qxM} {st : List Value} {a0 a1 : Option Value} {z : Int32} : Rs L xs (d) 249 50 [a0, a1, some (.int z)] st M x = Rs L xs (d) 249 51 [a0, a1, some (.int z)] (.int z :: st) M x := Rs_next c249_50 rfl
theorem c249_51 : qx_code 249 51 = some (51, .iadd, 52, 0, 0, 0) := by decide +kernel
theorem s249_51 {L : Nat} {xs : Nat → Int32} {d x : Nat} {M : qxM} {st : List Value} {ls : qxL} {z y : Int32} : Rs L xs (d) 249 51 ls (.int y :: .int z :: st) M x = Rs L xs (d) 249 52 ls (.int (z + y) :: st) M x := Rs_next c249_51 rfl
theorem c249_52 : qx_code 249 52 = some (52, .iaload, 53, 0, 0, 0) := by decide +kernel
theorem s249_52 {L : Nat} {xs : Nat → Int32} {d x : Nat} {M : qxM} {st : List Value} {ls : qxL} {t : Nat} {j : Int32} (hk : qx_kd t = 0) (hj : qx_ib j (qx_ln t) = true) : Rs L xs (d) 249 52 ls (.int j :: .ref t :: st) M x = Rs L xs (d) 249 53 ls (.int (M.1 t j.toNatClampNeg) :: st) M x := by
  have h1 := qx_kd_row (k := 0) (by decide) hk
  exact Rs_unless (qx_ib_not hj) c249_52 (by unfold qx_act; dsimp only; rw [h1]; rfl)
theorem c249_53 : qx_code 249 53 = some (53, .iconst 2, 54, 0, 0, 0) := by decide +kernel
theorem s249_53 {L : Nat} {xs : Nat → Int32} {d x : Nat} {M : qxM} {st : List Value} {ls : qxL} : Rs L xs (d) 249 53 ls st M x = Rs L xs (d) 249 54 ls (.int (nI 2) :: st) M x := Rs_next c249_53 rfl
theorem c249_54 : qx_code 249 54 = some (54, .if_icmp .eq 24, 57, 78, 0, 0) := by decide +kernel
theorem s249_54 {L : Nat} {xs : Nat → Int32} {d x : Nat} {M : qxM} {st : List Value} {ls : qxL} {z y : Int32} : Rs L xs (d) 249 54 ls (.int y :: .int z :: st) M x = if z = y then Rs L xs (d) 249 78 ls st M x else Rs L xs (d) 249 57 ls st M x := Rs_ite c249_54 rfl
theorem c249_57 : qx_code 249 57 = some (57, .aload_n 0, 58, 0, 0, 0) := by decide +kernel
theorem s249_57 {L : Nat} {xs : Nat → Int32} {d x : Nat} {M : qxM} {st : List Value} {a1 a2 : Option Value} {z : Nat} : Rs L xs (d) 249 57 [some (.ref z), a1, a2] st M x = Rs L xs (d) 249 58 [some (.ref z), a1, a2] (.ref z :: st) M x := Rs_next c249_57 rfl
theorem c249_58 : qx_code 249 58 = some (58, .getfield 9, 61, 8, 1, 1546) := by decide +kernel
theorem s249_58 {L : Nat} {xs : Nat → Int32} {d x : Nat} {M : qxM} {st : List Value} {ls : qxL} {t : Nat} (hk : qx_kd t = 18) : Rs L xs (d) 249 58 ls (.ref t :: st) M x = Rs L xs (d) 249 61 ls (.ref (t + 1) :: st) M x := Rs_when (qx_kd_obj (k := 8) (by decide) hk) c249_58 rfl
theorem c249_61 : qx_code 249 61 = some (61, .bipush 69, 63, 0, 0, 0) := by decide +kernel
theorem s249_61 {L : Nat} {xs : Nat → Int32} {d x : Nat} {M : qxM} {st : List Value} {ls : qxL} : Rs L xs (d) 249 61 ls st M x = Rs L xs (d) 249 63 ls (.int (nI 69) :: st) M x := Rs_next c249_61 rfl
theorem c249_63 : qx_code 249 63 = some (63, .iload_n 2, 64, 0, 0, 0) := by decide +kernel
theorem s249_63 {L : Nat} {xs : Nat → Int32} {d x : Nat} {M : qxM} {st : List Value} {a0 a1 : Option Value} {z : Int32} : Rs L xs (d) 249 63 [a0, a1, some (.int z)] st M x = Rs L xs (d) 249 64 [a0, a1, some (.int z)] (.int z :: st) M x := Rs_next c249_63 rfl
theorem c249_64 : qx_code 249 64 = some (64, .iadd, 65, 0, 0, 0) := by decide +kernel
theorem s249_64 {L : Nat} {xs : Nat → Int32} {d x : Nat} {M : qxM} {st : List Value} {ls : qxL} {z y : Int32} : Rs L xs (d) 249 64 ls (.int y :: .int z :: st) M x = Rs L xs (d) 249 65 ls (.int (z + y) :: st) M x := Rs_next c249_64 rfl
theorem c249_65 : qx_code 249 65 = some (65, .iaload, 66, 0, 0, 0) := by decide +kernel
theorem s249_65 {L : Nat} {xs : Nat → Int32} {d x : Nat} {M : qxM} {st : List Value} {ls : qxL} {t : Nat} {j : Int32} (hk : qx_kd t = 0) (hj : qx_ib j (qx_ln t) = true) : Rs L xs (d) 249 65 ls (.int j :: .ref t :: st) M x = Rs L xs (d) 249 66 ls (.int (M.1 t j.toNatClampNeg) :: st) M x := by
  have h1 := qx_kd_row (k := 0) (by decide) hk
  exact Rs_unless (qx_ib_not hj) c249_65 (by unfold qx_act; dsimp only; rw [h1]; rfl)
theorem c249_66 : qx_code 249 66 = some (66, .aload_n 0, 67, 0, 0, 0) := by decide +kernel
theorem s249_66 {L : Nat} {xs : Nat → Int32} {d x : Nat} {M : qxM} {st : List Value} {a1 a2 : Option Value} {z : Nat} : Rs L xs (d) 249 66 [some (.ref z), a1, a2] st M x = Rs L xs (d) 249 67 [some (.ref z), a1, a2] (.ref z :: st) M x := Rs_next c249_66 rfl
theorem c249_67 : qx_code 249 67 = some (67, .getfield 9, 70, 8, 1, 1546) := by decide +kernel
theorem s249_67 {L : Nat} {xs : Nat → Int32} {d x : Nat} {M : qxM} {st : List Value} {ls : qxL} {t : Nat} (hk : qx_kd t = 18) : Rs L xs (d) 249 67 ls (.ref t :: st) M x = Rs L xs (d) 249 70 ls (.ref (t + 1) :: st) M x := Rs_when (qx_kd_obj (k := 8) (by decide) hk) c249_67 rfl
theorem c249_70 : qx_code 249 70 = some (70, .bipush 69, 72, 0, 0, 0) := by decide +kernel
theorem s249_70 {L : Nat} {xs : Nat → Int32} {d x : Nat} {M : qxM} {st : List Value} {ls : qxL} : Rs L xs (d) 249 70 ls st M x = Rs L xs (d) 249 72 ls (.int (nI 69) :: st) M x := Rs_next c249_70 rfl
theorem c249_72 : qx_code 249 72 = some (72, .iload_n 1, 73, 0, 0, 0) := by decide +kernel
theorem s249_72 {L : Nat} {xs : Nat → Int32} {d x : Nat} {M : qxM} {st : List Value} {a0 a2 : Option Value} {z : Int32} : Rs L xs (d) 249 72 [a0, some (.int z), a2] st M x = Rs L xs (d) 249 73 [a0, some (.int z), a2] (.int z :: st) M x := Rs_next c249_72 rfl
theorem c249_73 : qx_code 249 73 = some (73, .iadd, 74, 0, 0, 0) := by decide +kernel
theorem s249_73 {L : Nat} {xs : Nat → Int32} {d x : Nat} {M : qxM} {st : List Value} {ls : qxL} {z y : Int32} : Rs L xs (d) 249 73 ls (.int y :: .int z :: st) M x = Rs L xs (d) 249 74 ls (.int (z + y) :: st) M x := Rs_next c249_73 rfl
theorem c249_74 : qx_code 249 74 = some (74, .iaload, 75, 0, 0, 0) := by decide +kernel
theorem s249_74 {L : Nat} {xs : Nat → Int32} {d x : Nat} {M : qxM} {st : List Value} {ls : qxL} {t : Nat} {j : Int32} (hk : qx_kd t = 0) (hj : qx_ib j (qx_ln t) = true) : Rs L xs (d) 249 74 ls (.int j :: .ref t :: st) M x = Rs L xs (d) 249 75 ls (.int (M.1 t j.toNatClampNeg) :: st) M x := by
  have h1 := qx_kd_row (k := 0) (by decide) hk
  exact Rs_unless (qx_ib_not hj) c249_74 (by unfold qx_act; dsimp only; rw [h1]; rfl)
theorem c249_75 : qx_code 249 75 = some (75, .if_icmp .ne 5, 78, 80, 0, 0) := by decide +kernel
theorem s249_75 {L : Nat} {xs : Nat → Int32} {d x : Nat} {M : qxM} {st : List Value} {ls : qxL} {z y : Int32} : Rs L xs (d) 249 75 ls (.int y :: .int z :: st) M x = if z = y then Rs L xs (d) 249 78 ls st M x else Rs L xs (d) 249 80 ls st M x := Rs_ite c249_75 rfl
theorem c249_78 : qx_code 249 78 = some (78, .iconst 0, 79, 0, 0, 0) := by decide +kernel
theorem s249_78 {L : Nat} {xs : Nat → Int32} {d x : Nat} {M : qxM} {st : List Value} {ls : qxL} : Rs L xs (d) 249 78 ls st M x = Rs L xs (d) 249 79 ls (.int (nI 0) :: st) M x := Rs_next c249_78 rfl
theorem c249_79 : qx_code 249 79 = some (79, .ireturn, 80, 0, 0, 0) := by decide +kernel
theorem s249_79 {L : Nat} {xs : Nat → Int32} {d x : Nat} {M : qxM} {ls : qxL} {z : Int32} : Rs L xs (d) 249 79 ls [.int z] M x = some (.inl (some (.int z)), M, x) := Rs_ret c249_79 rfl
theorem c249_80 : qx_code 249 80 = some (80, .aload_n 0, 81, 0, 0, 0) := by decide +kernel
theorem s249_80 {L : Nat} {xs : Nat → Int32} {d x : Nat} {M : qxM} {st : List Value} {a1 a2 : Option Value} {z : Nat} : Rs L xs (d) 249 80 [some (.ref z), a1, a2] st M x = Rs L xs (d) 249 81 [some (.ref z), a1, a2] (.ref z :: st) M x := Rs_next c249_80 rfl
theorem c249_81 : qx_code 249 81 = some (81, .getfield 9, 84, 8, 1, 1546) := by decide +kernel
theorem s249_81 {L : Nat} {xs : Nat → Int32} {d x : Nat} {M : qxM} {st : List Value} {ls : qxL} {t : Nat} (hk : qx_kd t = 18) : Rs L xs (d) 249 81 ls (.ref t :: st) M x = Rs L xs (d) 249 84 ls (.ref (t + 1) :: st) M x := Rs_when (qx_kd_obj (k := 8) (by decide) hk) c249_81 rfl
theorem c249_84 : qx_code 249 84 = some (84, .bipush 55, 86, 0, 0, 0) := by decide +kernel
theorem s249_84 {L : Nat} {xs : Nat → Int32} {d x : Nat} {M : qxM} {st : List Value} {ls : qxL} : Rs L xs (d) 249 84 ls st M x = Rs L xs (d) 249 86 ls (.int (nI 55) :: st) M x := Rs_next c249_84 rfl
theorem c249_86 : qx_code 249 86 = some (86, .iload_n 2, 87, 0, 0, 0) := by decide +kernel
theorem s249_86 {L : Nat} {xs : Nat → Int32} {d x : Nat} {M : qxM} {st : List Value} {a0 a1 : Option Value} {z : Int32} : Rs L xs (d) 249 86 [a0, a1, some (.int z)] st M x = Rs L xs (d) 249 87 [a0, a1, some (.int z)] (.int z :: st) M x := Rs_next c249_86 rfl
theorem c249_87 : qx_code 249 87 = some (87, .iadd, 88, 0, 0, 0) := by decide +kernel
theorem s249_87 {L : Nat} {xs : Nat → Int32} {d x : Nat} {M : qxM} {st : List Value} {ls : qxL} {z y : Int32} : Rs L xs (d) 249 87 ls (.int y :: .int z :: st) M x = Rs L xs (d) 249 88 ls (.int (z + y) :: st) M x := Rs_next c249_87 rfl
theorem c249_88 : qx_code 249 88 = some (88, .iaload, 89, 0, 0, 0) := by decide +kernel
theorem s249_88 {L : Nat} {xs : Nat → Int32} {d x : Nat} {M : qxM} {st : List Value} {ls : qxL} {t : Nat} {j : Int32} (hk : qx_kd t = 0) (hj : qx_ib j (qx_ln t) = true) : Rs L xs (d) 249 88 ls (.int j :: .ref t :: st) M x = Rs L xs (d) 249 89 ls (.int (M.1 t j.toNatClampNeg) :: st) M x := by
  have h1 := qx_kd_row (k := 0) (by decide) hk
  exact Rs_unless (qx_ib_not hj) c249_88 (by unfold qx_act; dsimp only; rw [h1]; rfl)
theorem c249_89 : qx_code 249 89 = some (89, .iconst 1, 90, 0, 0, 0) := by decide +kernel
theorem s249_89 {L : Nat} {xs : Nat → Int32} {d x : Nat} {M : qxM} {st : List Value} {ls : qxL} : Rs L xs (d) 249 89 ls st M x = Rs L xs (d) 249 90 ls (.int (nI 1) :: st) M x := Rs_next c249_89 rfl
theorem c249_90 : qx_code 249 90 = some (90, .if_icmp .ne 10, 93, 100, 0, 0) := by decide +kernel
theorem s249_90 {L : Nat} {xs : Nat → Int32} {d x : Nat} {M : qxM} {st : List Value} {ls : qxL} {z y : Int32} : Rs L xs (d) 249 90 ls (.int y :: .int z :: st) M x = if z = y then Rs L xs (d) 249 93 ls st M x else Rs L xs (d) 249 100 ls st M x := Rs_ite c249_90 rfl
theorem c249_93 : qx_code 249 93 = some (93, .aload_n 0, 94, 0, 0, 0) := by decide +kernel
theorem s249_93 {L : Nat} {xs : Nat → Int32} {d x : Nat} {M : qxM} {st : List Value} {a1 a2 : Option Value} {z : Nat} : Rs L xs (d) 249 93 [some (.ref z), a1, a2] st M x = Rs L xs (d) 249 94 [some (.ref z), a1, a2] (.ref z :: st) M x := Rs_next c249_93 rfl
theorem c249_94 : qx_code 249 94 = some (94, .iload_n 1, 95, 0, 0, 0) := by decide +kernel
theorem s249_94 {L : Nat} {xs : Nat → Int32} {d x : Nat} {M : qxM} {st : List Value} {a0 a2 : Option Value} {z : Int32} : Rs L xs (d) 249 94 [a0, some (.int z), a2] st M x = Rs L xs (d) 249 95 [a0, some (.int z), a2] (.int z :: st) M x := Rs_next c249_94 rfl
theorem c249_95 : qx_code 249 95 = some (95, .iload_n 2, 96, 0, 0, 0) := by decide +kernel
theorem s249_95 {L : Nat} {xs : Nat → Int32} {d x : Nat} {M : qxM} {st : List Value} {a0 a1 : Option Value} {z : Int32} : Rs L xs (d) 249 95 [a0, a1, some (.int z)] st M x = Rs L xs (d) 249 96 [a0, a1, some (.int z)] (.int z :: st) M x := Rs_next c249_95 rfl
theorem c249_96 : qx_code 249 96 = some (96, .invokevirtual 275, 99, 248, 3, 2101) := by decide +kernel
theorem s249_96 {L : Nat} {xs : Nat → Int32} {d x : Nat} {M : qxM} {st : List Value} {ls : qxL} {t : Nat} {z0 : Int32} {z1 : Int32} (hk : qx_kd t = 18) (hs : st.length ≤ 4) : Rs L xs (d + 1) 249 96 ls (.int z1 :: .int z0 :: .ref t :: st) M x = (Rs L xs d 248 0 [some (.ref t), some (.int z0), some (.int z1), none, none, none, none, none, none] [] M 0).bind (qx_kn L xs (d + 1) 249 96 99 248 ls st x) := by
  have h1 : qx_act L xs (qx_rt 249) (96, .invokevirtual 275, 99, 248, 3, 2101) ls (.int z1 :: .int z0 :: .ref t :: st) M = if 3 ≤ (.int z1 :: .int z0 :: .ref t :: st).length ∧ st.length ≤ 4 then some (.inr (.inr (.inr (248, [.ref t, .int z0, .int z1], st)))) else none := rfl
  rw [if_pos ⟨by simp [List.length_cons]; try omega, hs⟩] at h1
  have h2 := qx_kd_obj (k := 8) (by decide) hk
  exact Rs_call c249_96 h1 (by rw [show qx_args 248 [.ref t, .int z0, .int z1] = decide (qx_sh t = some (.inl 8)) from rfl]; exact decide_eq_true h2)
theorem c249_99 : qx_code 249 99 = some (99, .ireturn, 100, 0, 0, 0) := by decide +kernel
theorem s249_99 {L : Nat} {xs : Nat → Int32} {d x : Nat} {M : qxM} {ls : qxL} {z : Int32} : Rs L xs (d) 249 99 ls [.int z] M x = some (.inl (some (.int z)), M, x) := Rs_ret c249_99 rfl
theorem c249_100 : qx_code 249 100 = some (100, .aload_n 0, 101, 0, 0, 0) := by decide +kernel
theorem s249_100 {L : Nat} {xs : Nat → Int32} {d x : Nat} {M : qxM} {st : List Value} {a1 a2 : Option Value} {z : Nat} : Rs L xs (d) 249 100 [some (.ref z), a1, a2] st M x = Rs L xs (d) 249 101 [some (.ref z), a1, a2] (.ref z :: st) M x := Rs_next c249_100 rfl
theorem c249_101 : qx_code 249 101 = some (101, .iload_n 2, 102, 0, 0, 0) := by decide +kernel
theorem s249_101 {L : Nat} {xs : Nat → Int32} {d x : Nat} {M : qxM} {st : List Value} {a0 a1 : Option Value} {z : Int32} : Rs L xs (d) 249 101 [a0, a1, some (.int z)] st M x = Rs L xs (d) 249 102 [a0, a1, some (.int z)] (.int z :: st) M x := Rs_next c249_101 rfl
theorem c249_102 : qx_code 249 102 = some (102, .invokevirtual 132, 105, 213, 2, 1737) := by decide +kernel
theorem s249_102 {L : Nat} {xs : Nat → Int32} {d x : Nat} {M : qxM} {st : List Value} {ls : qxL} {t : Nat} {z0 : Int32} (hk : qx_kd t = 18) (hs : st.length ≤ 4) : Rs L xs (d + 1) 249 102 ls (.int z0 :: .ref t :: st) M x = (Rs L xs d 213 0 [some (.ref t), some (.int z0)] [] M 0).bind (qx_kn L xs (d + 1) 249 102 105 213 ls st x) := by
  have h1 : qx_act L xs (qx_rt 249) (102, .invokevirtual 132, 105, 213, 2, 1737) ls (.int z0 :: .ref t :: st) M = if 2 ≤ (.int z0 :: .ref t :: st).length ∧ st.length ≤ 4 then some (.inr (.inr (.inr (213, [.ref t, .int z0], st)))) else none := rfl
  rw [if_pos ⟨by simp [List.length_cons]; try omega, hs⟩] at h1
  have h2 := qx_kd_obj (k := 8) (by decide) hk
  exact Rs_call c249_102 h1 (by rw [show qx_args 213 [.ref t, .int z0] = decide (qx_sh t = some (.inl 8)) from rfl]; exact decide_eq_true h2)
theorem c249_105 : qx_code 249 105 = some (105, .iconst (-1), 106, 0, 0, 0) := by decide +kernel
theorem s249_105 {L : Nat} {xs : Nat → Int32} {d x : Nat} {M : qxM} {st : List Value} {ls : qxL} : Rs L xs (d) 249 105 ls st M x = Rs L xs (d) 249 106 ls (.int (-1) :: st) M x := Rs_next c249_105 rfl
theorem c249_106 : qx_code 249 106 = some (106, .if_icmp .ne 12, 109, 118, 0, 0) := by decide +kernel
theorem s249_106 {L : Nat} {xs : Nat → Int32} {d x : Nat} {M : qxM} {st : List Value} {ls : qxL} {z y : Int32} : Rs L xs (d) 249 106 ls (.int y :: .int z :: st) M x = if z = y then Rs L xs (d) 249 109 ls st M x else Rs L xs (d) 249 118 ls st M x := Rs_ite c249_106 rfl
theorem c249_109 : qx_code 249 109 = some (109, .aload_n 0, 110, 0, 0, 0) := by decide +kernel
theorem s249_109 {L : Nat} {xs : Nat → Int32} {d x : Nat} {M : qxM} {st : List Value} {a1 a2 : Option Value} {z : Nat} : Rs L xs (d) 249 109 [some (.ref z), a1, a2] st M x = Rs L xs (d) 249 110 [some (.ref z), a1, a2] (.ref z :: st) M x := Rs_next c249_109 rfl
theorem c249_110 : qx_code 249 110 = some (110, .iload_n 1, 111, 0, 0, 0) := by decide +kernel
theorem s249_110 {L : Nat} {xs : Nat → Int32} {d x : Nat} {M : qxM} {st : List Value} {a0 a2 : Option Value} {z : Int32} : Rs L xs (d) 249 110 [a0, some (.int z), a2] st M x = Rs L xs (d) 249 111 [a0, some (.int z), a2] (.int z :: st) M x := Rs_next c249_110 rfl
theorem c249_111 : qx_code 249 111 = some (111, .iload_n 2, 112, 0, 0, 0) := by decide +kernel
theorem s249_111 {L : Nat} {xs : Nat → Int32} {d x : Nat} {M : qxM} {st : List Value} {a0 a1 : Option Value} {z : Int32} : Rs L xs (d) 249 111 [a0, a1, some (.int z)] st M x = Rs L xs (d) 249 112 [a0, a1, some (.int z)] (.int z :: st) M x := Rs_next c249_111 rfl
theorem c249_112 : qx_code 249 112 = some (112, .invokevirtual 278, 115, 242, 3, 2125) := by decide +kernel
theorem s249_112 {L : Nat} {xs : Nat → Int32} {d x : Nat} {M : qxM} {st : List Value} {ls : qxL} {t : Nat} {z0 : Int32} {z1 : Int32} (hk : qx_kd t = 18) (hs : st.length ≤ 4) : Rs L xs (d + 1) 249 112 ls (.int z1 :: .int z0 :: .ref t :: st) M x = (Rs L xs d 242 0 [some (.ref t), some (.int z0), some (.int z1), none] [] M 0).bind (qx_kn L xs (d + 1) 249 112 115 242 ls st x) := by
  have h1 : qx_act L xs (qx_rt 249) (112, .invokevirtual 278, 115, 242, 3, 2125) ls (.int z1 :: .int z0 :: .ref t :: st) M = if 3 ≤ (.int z1 :: .int z0 :: .ref t :: st).length ∧ st.length ≤ 4 then some (.inr (.inr (.inr (242, [.ref t, .int z0, .int z1], st)))) else none := rfl
  rw [if_pos ⟨by simp [List.length_cons]; try omega, hs⟩] at h1
  have h2 := qx_kd_obj (k := 8) (by decide) hk
  exact Rs_call c249_112 h1 (by rw [show qx_args 242 [.ref t, .int z0, .int z1] = decide (qx_sh t = some (.inl 8)) from rfl]; exact decide_eq_true h2)
theorem c249_115 : qx_code 249 115 = some (115, .goto 9, 118, 124, 0, 0) := by decide +kernel
theorem s249_115 {L : Nat} {xs : Nat → Int32} {d x : Nat} {M : qxM} {st : List Value} {ls : qxL} : Rs L xs (d) 249 115 ls st M x = Rs L xs (d) 249 124 ls st M x := Rs_next c249_115 rfl
theorem c249_118 : qx_code 249 118 = some (118, .aload_n 0, 119, 0, 0, 0) := by decide +kernel
theorem s249_118 {L : Nat} {xs : Nat → Int32} {d x : Nat} {M : qxM} {st : List Value} {a1 a2 : Option Value} {z : Nat} : Rs L xs (d) 249 118 [some (.ref z), a1, a2] st M x = Rs L xs (d) 249 119 [some (.ref z), a1, a2] (.ref z :: st) M x := Rs_next c249_118 rfl
theorem c249_119 : qx_code 249 119 = some (119, .iload_n 1, 120, 0, 0, 0) := by decide +kernel
theorem s249_119 {L : Nat} {xs : Nat → Int32} {d x : Nat} {M : qxM} {st : List Value} {a0 a2 : Option Value} {z : Int32} : Rs L xs (d) 249 119 [a0, some (.int z), a2] st M x = Rs L xs (d) 249 120 [a0, some (.int z), a2] (.int z :: st) M x := Rs_next c249_119 rfl
theorem c249_120 : qx_code 249 120 = some (120, .iload_n 2, 121, 0, 0, 0) := by decide +kernel
theorem s249_120 {L : Nat} {xs : Nat → Int32} {d x : Nat} {M : qxM} {st : List Value} {a0 a1 : Option Value} {z : Int32} : Rs L xs (d) 249 120 [a0, a1, some (.int z)] st M x = Rs L xs (d) 249 121 [a0, a1, some (.int z)] (.int z :: st) M x := Rs_next c249_120 rfl
theorem c249_121 : qx_code 249 121 = some (121, .invokevirtual 281, 124, 243, 3, 2129) := by decide +kernel
theorem s249_121 {L : Nat} {xs : Nat → Int32} {d x : Nat} {M : qxM} {st : List Value} {ls : qxL} {t : Nat} {z0 : Int32} {z1 : Int32} (hk : qx_kd t = 18) (hs : st.length ≤ 4) : Rs L xs (d + 1) 249 121 ls (.int z1 :: .int z0 :: .ref t :: st) M x = (Rs L xs d 243 0 [some (.ref t), some (.int z0), some (.int z1), none, none, none] [] M 0).bind (qx_kn L xs (d + 1) 249 121 124 243 ls st x) := by
  have h1 : qx_act L xs (qx_rt 249) (121, .invokevirtual 281, 124, 243, 3, 2129) ls (.int z1 :: .int z0 :: .ref t :: st) M = if 3 ≤ (.int z1 :: .int z0 :: .ref t :: st).length ∧ st.length ≤ 4 then some (.inr (.inr (.inr (243, [.ref t, .int z0, .int z1], st)))) else none := rfl
  rw [if_pos ⟨by simp [List.length_cons]; try omega, hs⟩] at h1
  have h2 := qx_kd_obj (k := 8) (by decide) hk
  exact Rs_call c249_121 h1 (by rw [show qx_args 243 [.ref t, .int z0, .int z1] = decide (qx_sh t = some (.inl 8)) from rfl]; exact decide_eq_true h2)
theorem c249_124 : qx_code 249 124 = some (124, .ireturn, 125, 0, 0, 0) := by decide +kernel
theorem s249_124 {L : Nat} {xs : Nat → Int32} {d x : Nat} {M : qxM} {ls : qxL} {z : Int32} : Rs L xs (d) 249 124 ls [.int z] M x = some (.inl (some (.int z)), M, x) := Rs_ret c249_124 rfl
theorem c250_0 : qx_code 250 0 = some (0, .aload_n 0, 1, 0, 0, 0) := by decide +kernel
theorem s250_0 {L : Nat} {xs : Nat → Int32} {d x : Nat} {M : qxM} {st : List Value} {z : Nat} : Rs L xs (d) 250 0 [some (.ref z)] st M x = Rs L xs (d) 250 1 [some (.ref z)] (.ref z :: st) M x := Rs_next c250_0 rfl
theorem c250_1 : qx_code 250 1 = some (1, .getfield 9, 4, 8, 1, 1546) := by decide +kernel
theorem s250_1 {L : Nat} {xs : Nat → Int32} {d x : Nat} {M : qxM} {st : List Value} {ls : qxL} {t : Nat} (hk : qx_kd t = 18) : Rs L xs (d) 250 1 ls (.ref t :: st) M x = Rs L xs (d) 250 4 ls (.ref (t + 1) :: st) M x := Rs_when (qx_kd_obj (k := 8) (by decide) hk) c250_1 rfl
theorem c250_4 : qx_code 250 4 = some (4, .bipush 35, 6, 0, 0, 0) := by decide +kernel
theorem s250_4 {L : Nat} {xs : Nat → Int32} {d x : Nat} {M : qxM} {st : List Value} {ls : qxL} : Rs L xs (d) 250 4 ls st M x = Rs L xs (d) 250 6 ls (.int (nI 35) :: st) M x := Rs_next c250_4 rfl
theorem c250_6 : qx_code 250 6 = some (6, .iaload, 7, 0, 0, 0) := by decide +kernel
theorem s250_6 {L : Nat} {xs : Nat → Int32} {d x : Nat} {M : qxM} {st : List Value} {ls : qxL} {t : Nat} {j : Int32} (hk : qx_kd t = 0) (hj : qx_ib j (qx_ln t) = true) : Rs L xs (d) 250 6 ls (.int j :: .ref t :: st) M x = Rs L xs (d) 250 7 ls (.int (M.1 t j.toNatClampNeg) :: st) M x := by
  have h1 := qx_kd_row (k := 0) (by decide) hk
  exact Rs_unless (qx_ib_not hj) c250_6 (by unfold qx_act; dsimp only; rw [h1]; rfl)
theorem c250_7 : qx_code 250 7 = some (7, .iconst 1, 8, 0, 0, 0) := by decide +kernel
theorem s250_7 {L : Nat} {xs : Nat → Int32} {d x : Nat} {M : qxM} {st : List Value} {ls : qxL} : Rs L xs (d) 250 7 ls st M x = Rs L xs (d) 250 8 ls (.int (nI 1) :: st) M x := Rs_next c250_7 rfl
theorem c250_8 : qx_code 250 8 = some (8, .if_icmp .ne 7, 11, 15, 0, 0) := by decide +kernel
theorem s250_8 {L : Nat} {xs : Nat → Int32} {d x : Nat} {M : qxM} {st : List Value} {ls : qxL} {z y : Int32} : Rs L xs (d) 250 8 ls (.int y :: .int z :: st) M x = if z = y then Rs L xs (d) 250 11 ls st M x else Rs L xs (d) 250 15 ls st M x := Rs_ite c250_8 rfl
theorem c250_11 : qx_code 250 11 = some (11, .iconst 1, 12, 0, 0, 0) := by decide +kernel
theorem s250_11 {L : Nat} {xs : Nat → Int32} {d x : Nat} {M : qxM} {st : List Value} {ls : qxL} : Rs L xs (d) 250 11 ls st M x = Rs L xs (d) 250 12 ls (.int (nI 1) :: st) M x := Rs_next c250_11 rfl
theorem c250_12 : qx_code 250 12 = some (12, .goto 4, 15, 16, 0, 0) := by decide +kernel
theorem s250_12 {L : Nat} {xs : Nat → Int32} {d x : Nat} {M : qxM} {st : List Value} {ls : qxL} : Rs L xs (d) 250 12 ls st M x = Rs L xs (d) 250 16 ls st M x := Rs_next c250_12 rfl
theorem c250_15 : qx_code 250 15 = some (15, .iconst 0, 16, 0, 0, 0) := by decide +kernel
theorem s250_15 {L : Nat} {xs : Nat → Int32} {d x : Nat} {M : qxM} {st : List Value} {ls : qxL} : Rs L xs (d) 250 15 ls st M x = Rs L xs (d) 250 16 ls (.int (nI 0) :: st) M x := Rs_next c250_15 rfl
theorem c250_16 : qx_code 250 16 = some (16, .ireturn, 17, 0, 0, 0) := by decide +kernel
theorem s250_16 {L : Nat} {xs : Nat → Int32} {d x : Nat} {M : qxM} {ls : qxL} {z : Int32} (h01 : z = 0 ∨ z = 1) : Rs L xs (d) 250 16 ls [.int z] M x = some (.inl (some (.int z)), M, x) := Rs_retw h01 c250_16 rfl
theorem c251_0 : qx_code 251 0 = some (0, .iconst 0, 1, 0, 0, 0) := by decide +kernel
theorem s251_0 {L : Nat} {xs : Nat → Int32} {d x : Nat} {M : qxM} {st : List Value} {ls : qxL} : Rs L xs (d) 251 0 ls st M x = Rs L xs (d) 251 1 ls (.int (nI 0) :: st) M x := Rs_next c251_0 rfl
theorem c251_1 : qx_code 251 1 = some (1, .istore_n 1, 2, 0, 0, 0) := by decide +kernel
theorem s251_1i {L : Nat} {xs : Nat → Int32} {d x : Nat} {M : qxM} {st : List Value} {a1 a2 : Option Value} {z : Int32} {y : Int32} : Rs L xs (d) 251 1 [some (.int y), a1, a2] (.int z :: st) M x = Rs L xs (d) 251 2 [some (.int y), some (.int z), a2] st M x := Rs_next c251_1 rfl
theorem s251_1r {L : Nat} {xs : Nat → Int32} {d x : Nat} {M : qxM} {st : List Value} {a1 a2 : Option Value} {z : Int32} {y : Nat} : Rs L xs (d) 251 1 [some (.ref y), a1, a2] (.int z :: st) M x = Rs L xs (d) 251 2 [some (.ref y), some (.int z), a2] st M x := Rs_next c251_1 rfl
theorem s251_1n {L : Nat} {xs : Nat → Int32} {d x : Nat} {M : qxM} {st : List Value} {a1 a2 : Option Value} {z : Int32} : Rs L xs (d) 251 1 [none, a1, a2] (.int z :: st) M x = Rs L xs (d) 251 2 [none, some (.int z), a2] st M x := Rs_next c251_1 rfl
theorem c251_2 : qx_code 251 2 = some (2, .aload_n 0, 3, 0, 0, 0) := by decide +kernel
theorem s251_2 {L : Nat} {xs : Nat → Int32} {d x : Nat} {M : qxM} {st : List Value} {a1 a2 : Option Value} {z : Nat} : Rs L xs (d) 251 2 [some (.ref z), a1, a2] st M x = Rs L xs (d) 251 3 [some (.ref z), a1, a2] (.ref z :: st) M x := Rs_next c251_2 rfl
theorem c251_3 : qx_code 251 3 = some (3, .invokevirtual 284, 6, 250, 1, 1890) := by decide +kernel
theorem s251_3 {L : Nat} {xs : Nat → Int32} {d x : Nat} {M : qxM} {st : List Value} {ls : qxL} {t : Nat} (hk : qx_kd t = 18) (hs : st.length ≤ 4) : Rs L xs (d + 1) 251 3 ls (.ref t :: st) M x = (Rs L xs d 250 0 [some (.ref t)] [] M 0).bind (qx_kn L xs (d + 1) 251 3 6 250 ls st x) := by
  have h1 : qx_act L xs (qx_rt 251) (3, .invokevirtual 284, 6, 250, 1, 1890) ls (.ref t :: st) M = if 1 ≤ (.ref t :: st).length ∧ st.length ≤ 4 then some (.inr (.inr (.inr (250, [.ref t], st)))) else none := rfl
  rw [if_pos ⟨by simp [List.length_cons]; try omega, hs⟩] at h1
  have h2 := qx_kd_obj (k := 8) (by decide) hk
  exact Rs_call c251_3 h1 (by rw [show qx_args 250 [.ref t] = decide (qx_sh t = some (.inl 8)) from rfl]; exact decide_eq_true h2)
theorem c251_6 : qx_code 251 6 = some (6, .ifCond .eq 14, 9, 20, 0, 0) := by decide +kernel
theorem s251_6 {L : Nat} {xs : Nat → Int32} {d x : Nat} {M : qxM} {st : List Value} {ls : qxL} {z : Int32} : Rs L xs (d) 251 6 ls (.int z :: st) M x = if z = 0 then Rs L xs (d) 251 20 ls st M x else Rs L xs (d) 251 9 ls st M x := Rs_ite c251_6 rfl
theorem c251_9 : qx_code 251 9 = some (9, .aload_n 0, 10, 0, 0, 0) := by decide +kernel
theorem s251_9 {L : Nat} {xs : Nat → Int32} {d x : Nat} {M : qxM} {st : List Value} {a1 a2 : Option Value} {z : Nat} : Rs L xs (d) 251 9 [some (.ref z), a1, a2] st M x = Rs L xs (d) 251 10 [some (.ref z), a1, a2] (.ref z :: st) M x := Rs_next c251_9 rfl
theorem c251_10 : qx_code 251 10 = some (10, .invokevirtual 288, 13, 249, 1, 2093) := by decide +kernel
theorem s251_10 {L : Nat} {xs : Nat → Int32} {d x : Nat} {M : qxM} {st : List Value} {ls : qxL} {t : Nat} (hk : qx_kd t = 18) (hs : st.length ≤ 4) : Rs L xs (d + 1) 251 10 ls (.ref t :: st) M x = (Rs L xs d 249 0 [some (.ref t), none, none] [] M 0).bind (qx_kn L xs (d + 1) 251 10 13 249 ls st x) := by
  have h1 : qx_act L xs (qx_rt 251) (10, .invokevirtual 288, 13, 249, 1, 2093) ls (.ref t :: st) M = if 1 ≤ (.ref t :: st).length ∧ st.length ≤ 4 then some (.inr (.inr (.inr (249, [.ref t], st)))) else none := rfl
  rw [if_pos ⟨by simp [List.length_cons]; try omega, hs⟩] at h1
  have h2 := qx_kd_obj (k := 8) (by decide) hk
  exact Rs_call c251_10 h1 (by rw [show qx_args 249 [.ref t] = decide (qx_sh t = some (.inl 8)) from rfl]; exact decide_eq_true h2)
theorem c251_13 : qx_code 251 13 = some (13, .istore_n 2, 14, 0, 0, 0) := by decide +kernel
theorem s251_13i {L : Nat} {xs : Nat → Int32} {d x : Nat} {M : qxM} {st : List Value} {a0 a2 : Option Value} {z : Int32} {y : Int32} : Rs L xs (d) 251 13 [a0, some (.int y), a2] (.int z :: st) M x = Rs L xs (d) 251 14 [a0, some (.int y), some (.int z)] st M x := Rs_next c251_13 rfl
theorem s251_13r {L : Nat} {xs : Nat → Int32} {d x : Nat} {M : qxM} {st : List Value} {a0 a2 : Option Value} {z : Int32} {y : Nat} : Rs L xs (d) 251 13 [a0, some (.ref y), a2] (.int z :: st) M x = Rs L xs (d) 251 14 [a0, some (.ref y), some (.int z)] st M x := Rs_next c251_13 rfl
theorem s251_13n {L : Nat} {xs : Nat → Int32} {d x : Nat} {M : qxM} {st : List Value} {a0 a2 : Option Value} {z : Int32} : Rs L xs (d) 251 13 [a0, none, a2] (.int z :: st) M x = Rs L xs (d) 251 14 [a0, none, some (.int z)] st M x := Rs_next c251_13 rfl
theorem c251_14 : qx_code 251 14 = some (14, .iinc 1 1, 17, 0, 0, 0) := by decide +kernel
theorem s251_14i {L : Nat} {xs : Nat → Int32} {d x : Nat} {M : qxM} {st : List Value} {a2 : Option Value} {z : Int32} {y : Int32} : Rs L xs (d) 251 14 [some (.int y), some (.int z), a2] st M x = Rs L xs (d) 251 17 [some (.int y), some (.int (z + (nI 1))), a2] st M x := Rs_next c251_14 rfl
theorem s251_14r {L : Nat} {xs : Nat → Int32} {d x : Nat} {M : qxM} {st : List Value} {a2 : Option Value} {z : Int32} {y : Nat} : Rs L xs (d) 251 14 [some (.ref y), some (.int z), a2] st M x = Rs L xs (d) 251 17 [some (.ref y), some (.int (z + (nI 1))), a2] st M x := Rs_next c251_14 rfl
theorem s251_14n {L : Nat} {xs : Nat → Int32} {d x : Nat} {M : qxM} {st : List Value} {a2 : Option Value} {z : Int32} : Rs L xs (d) 251 14 [none, some (.int z), a2] st M x = Rs L xs (d) 251 17 [none, some (.int (z + (nI 1))), a2] st M x := Rs_next c251_14 rfl
theorem c251_17 : qx_code 251 17 = some (17, .goto (-15), 20, 2, 0, 0) := by decide +kernel
theorem s251_17 {L : Nat} {xs : Nat → Int32} {d x : Nat} {M : qxM} {st : List Value} {ls : qxL} : Rs L xs (d) 251 17 ls st M x = Rs L xs (d) 251 2 ls st M x := Rs_next c251_17 rfl
theorem c251_20 : qx_code 251 20 = some (20, .iload_n 1, 21, 0, 0, 0) := by decide +kernel
theorem s251_20 {L : Nat} {xs : Nat → Int32} {d x : Nat} {M : qxM} {st : List Value} {a0 a2 : Option Value} {z : Int32} : Rs L xs (d) 251 20 [a0, some (.int z), a2] st M x = Rs L xs (d) 251 21 [a0, some (.int z), a2] (.int z :: st) M x := Rs_next c251_20 rfl
theorem c251_21 : qx_code 251 21 = some (21, .ireturn, 22, 0, 0, 0) := by decide +kernel
theorem s251_21 {L : Nat} {xs : Nat → Int32} {d x : Nat} {M : qxM} {ls : qxL} {z : Int32} : Rs L xs (d) 251 21 ls [.int z] M x = some (.inl (some (.int z)), M, x) := Rs_ret c251_21 rfl
theorem c252_0 : qx_code 252 0 = some (0, .iconst 0, 1, 0, 0, 0) := by decide +kernel
theorem s252_0 {L : Nat} {xs : Nat → Int32} {d x : Nat} {M : qxM} {st : List Value} {ls : qxL} : Rs L xs (d) 252 0 ls st M x = Rs L xs (d) 252 1 ls (.int (nI 0) :: st) M x := Rs_next c252_0 rfl
theorem c252_1 : qx_code 252 1 = some (1, .istore_n 2, 2, 0, 0, 0) := by decide +kernel
theorem s252_1i {L : Nat} {xs : Nat → Int32} {d x : Nat} {M : qxM} {st : List Value} {a0 a2 a3 : Option Value} {z : Int32} {y : Int32} : Rs L xs (d) 252 1 [a0, some (.int y), a2, a3] (.int z :: st) M x = Rs L xs (d) 252 2 [a0, some (.int y), some (.int z), a3] st M x := Rs_next c252_1 rfl
theorem s252_1r {L : Nat} {xs : Nat → Int32} {d x : Nat} {M : qxM} {st : List Value} {a0 a2 a3 : Option Value} {z : Int32} {y : Nat} : Rs L xs (d) 252 1 [a0, some (.ref y), a2, a3] (.int z :: st) M x = Rs L xs (d) 252 2 [a0, some (.ref y), some (.int z), a3] st M x := Rs_next c252_1 rfl
theorem s252_1n {L : Nat} {xs : Nat → Int32} {d x : Nat} {M : qxM} {st : List Value} {a0 a2 a3 : Option Value} {z : Int32} : Rs L xs (d) 252 1 [a0, none, a2, a3] (.int z :: st) M x = Rs L xs (d) 252 2 [a0, none, some (.int z), a3] st M x := Rs_next c252_1 rfl
theorem c252_2 : qx_code 252 2 = some (2, .iconst 0, 3, 0, 0, 0) := by decide +kernel
theorem s252_2 {L : Nat} {xs : Nat → Int32} {d x : Nat} {M : qxM} {st : List Value} {ls : qxL} : Rs L xs (d) 252 2 ls st M x = Rs L xs (d) 252 3 ls (.int (nI 0) :: st) M x := Rs_next c252_2 rfl
theorem c252_3 : qx_code 252 3 = some (3, .istore_n 3, 4, 0, 0, 0) := by decide +kernel
theorem s252_3i {L : Nat} {xs : Nat → Int32} {d x : Nat} {M : qxM} {st : List Value} {a0 a1 a3 : Option Value} {z : Int32} {y : Int32} : Rs L xs (d) 252 3 [a0, a1, some (.int y), a3] (.int z :: st) M x = Rs L xs (d) 252 4 [a0, a1, some (.int y), some (.int z)] st M x := Rs_next c252_3 rfl
theorem s252_3r {L : Nat} {xs : Nat → Int32} {d x : Nat} {M : qxM} {st : List Value} {a0 a1 a3 : Option Value} {z : Int32} {y : Nat} : Rs L xs (d) 252 3 [a0, a1, some (.ref y), a3] (.int z :: st) M x = Rs L xs (d) 252 4 [a0, a1, some (.ref y), some (.int z)] st M x := Rs_next c252_3 rfl
theorem s252_3n {L : Nat} {xs : Nat → Int32} {d x : Nat} {M : qxM} {st : List Value} {a0 a1 a3 : Option Value} {z : Int32} : Rs L xs (d) 252 3 [a0, a1, none, a3] (.int z :: st) M x = Rs L xs (d) 252 4 [a0, a1, none, some (.int z)] st M x := Rs_next c252_3 rfl
theorem c252_4 : qx_code 252 4 = some (4, .iload_n 3, 5, 0, 0, 0) := by decide +kernel
theorem s252_4 {L : Nat} {xs : Nat → Int32} {d x : Nat} {M : qxM} {st : List Value} {a0 a1 a2 : Option Value} {z : Int32} : Rs L xs (d) 252 4 [a0, a1, a2, some (.int z)] st M x = Rs L xs (d) 252 5 [a0, a1, a2, some (.int z)] (.int z :: st) M x := Rs_next c252_4 rfl
theorem c252_5 : qx_code 252 5 = some (5, .aload_n 0, 6, 0, 0, 0) := by decide +kernel
theorem s252_5 {L : Nat} {xs : Nat → Int32} {d x : Nat} {M : qxM} {st : List Value} {a1 a2 a3 : Option Value} {z : Nat} : Rs L xs (d) 252 5 [some (.ref z), a1, a2, a3] st M x = Rs L xs (d) 252 6 [some (.ref z), a1, a2, a3] (.ref z :: st) M x := Rs_next c252_5 rfl
theorem c252_6 : qx_code 252 6 = some (6, .getfield 9, 9, 8, 1, 1546) := by decide +kernel
theorem s252_6 {L : Nat} {xs : Nat → Int32} {d x : Nat} {M : qxM} {st : List Value} {ls : qxL} {t : Nat} (hk : qx_kd t = 18) : Rs L xs (d) 252 6 ls (.ref t :: st) M x = Rs L xs (d) 252 9 ls (.ref (t + 1) :: st) M x := Rs_when (qx_kd_obj (k := 8) (by decide) hk) c252_6 rfl
theorem c252_9 : qx_code 252 9 = some (9, .iconst 0, 10, 0, 0, 0) := by decide +kernel
theorem s252_9 {L : Nat} {xs : Nat → Int32} {d x : Nat} {M : qxM} {st : List Value} {ls : qxL} : Rs L xs (d) 252 9 ls st M x = Rs L xs (d) 252 10 ls (.int (nI 0) :: st) M x := Rs_next c252_9 rfl
theorem c252_10 : qx_code 252 10 = some (10, .iaload, 11, 0, 0, 0) := by decide +kernel
theorem s252_10 {L : Nat} {xs : Nat → Int32} {d x : Nat} {M : qxM} {st : List Value} {ls : qxL} {t : Nat} {j : Int32} (hk : qx_kd t = 0) (hj : qx_ib j (qx_ln t) = true) : Rs L xs (d) 252 10 ls (.int j :: .ref t :: st) M x = Rs L xs (d) 252 11 ls (.int (M.1 t j.toNatClampNeg) :: st) M x := by
  have h1 := qx_kd_row (k := 0) (by decide) hk
  exact Rs_unless (qx_ib_not hj) c252_10 (by unfold qx_act; dsimp only; rw [h1]; rfl)
theorem c252_11 : qx_code 252 11 = some (11, .if_icmp .ge 33, 14, 44, 0, 0) := by decide +kernel
theorem s252_11 {L : Nat} {xs : Nat → Int32} {d x : Nat} {M : qxM} {st : List Value} {ls : qxL} {z y : Int32} : Rs L xs (d) 252 11 ls (.int y :: .int z :: st) M x = if y ≤ z then Rs L xs (d) 252 44 ls st M x else Rs L xs (d) 252 14 ls st M x := Rs_ite c252_11 rfl
theorem c252_14 : qx_code 252 14 = some (14, .iload_n 2, 15, 0, 0, 0) := by decide +kernel
theorem s252_14 {L : Nat} {xs : Nat → Int32} {d x : Nat} {M : qxM} {st : List Value} {a0 a1 a3 : Option Value} {z : Int32} : Rs L xs (d) 252 14 [a0, a1, some (.int z), a3] st M x = Rs L xs (d) 252 15 [a0, a1, some (.int z), a3] (.int z :: st) M x := Rs_next c252_14 rfl
theorem c252_15 : qx_code 252 15 = some (15, .aload_n 0, 16, 0, 0, 0) := by decide +kernel
theorem s252_15 {L : Nat} {xs : Nat → Int32} {d x : Nat} {M : qxM} {st : List Value} {a1 a2 a3 : Option Value} {z : Nat} : Rs L xs (d) 252 15 [some (.ref z), a1, a2, a3] st M x = Rs L xs (d) 252 16 [some (.ref z), a1, a2, a3] (.ref z :: st) M x := Rs_next c252_15 rfl
theorem c252_16 : qx_code 252 16 = some (16, .getfield 9, 19, 8, 1, 1546) := by decide +kernel
theorem s252_16 {L : Nat} {xs : Nat → Int32} {d x : Nat} {M : qxM} {st : List Value} {ls : qxL} {t : Nat} (hk : qx_kd t = 18) : Rs L xs (d) 252 16 ls (.ref t :: st) M x = Rs L xs (d) 252 19 ls (.ref (t + 1) :: st) M x := Rs_when (qx_kd_obj (k := 8) (by decide) hk) c252_16 rfl
theorem c252_19 : qx_code 252 19 = some (19, .bipush 55, 21, 0, 0, 0) := by decide +kernel
theorem s252_19 {L : Nat} {xs : Nat → Int32} {d x : Nat} {M : qxM} {st : List Value} {ls : qxL} : Rs L xs (d) 252 19 ls st M x = Rs L xs (d) 252 21 ls (.int (nI 55) :: st) M x := Rs_next c252_19 rfl
theorem c252_21 : qx_code 252 21 = some (21, .iload_n 3, 22, 0, 0, 0) := by decide +kernel
theorem s252_21 {L : Nat} {xs : Nat → Int32} {d x : Nat} {M : qxM} {st : List Value} {a0 a1 a2 : Option Value} {z : Int32} : Rs L xs (d) 252 21 [a0, a1, a2, some (.int z)] st M x = Rs L xs (d) 252 22 [a0, a1, a2, some (.int z)] (.int z :: st) M x := Rs_next c252_21 rfl
theorem c252_22 : qx_code 252 22 = some (22, .iadd, 23, 0, 0, 0) := by decide +kernel
theorem s252_22 {L : Nat} {xs : Nat → Int32} {d x : Nat} {M : qxM} {st : List Value} {ls : qxL} {z y : Int32} : Rs L xs (d) 252 22 ls (.int y :: .int z :: st) M x = Rs L xs (d) 252 23 ls (.int (z + y) :: st) M x := Rs_next c252_22 rfl
theorem c252_23 : qx_code 252 23 = some (23, .iaload, 24, 0, 0, 0) := by decide +kernel
theorem s252_23 {L : Nat} {xs : Nat → Int32} {d x : Nat} {M : qxM} {st : List Value} {ls : qxL} {t : Nat} {j : Int32} (hk : qx_kd t = 0) (hj : qx_ib j (qx_ln t) = true) : Rs L xs (d) 252 23 ls (.int j :: .ref t :: st) M x = Rs L xs (d) 252 24 ls (.int (M.1 t j.toNatClampNeg) :: st) M x := by
  have h1 := qx_kd_row (k := 0) (by decide) hk
  exact Rs_unless (qx_ib_not hj) c252_23 (by unfold qx_act; dsimp only; rw [h1]; rfl)
theorem c252_24 : qx_code 252 24 = some (24, .iload_n 1, 25, 0, 0, 0) := by decide +kernel
theorem s252_24 {L : Nat} {xs : Nat → Int32} {d x : Nat} {M : qxM} {st : List Value} {a0 a2 a3 : Option Value} {z : Int32} : Rs L xs (d) 252 24 [a0, some (.int z), a2, a3] st M x = Rs L xs (d) 252 25 [a0, some (.int z), a2, a3] (.int z :: st) M x := Rs_next c252_24 rfl
theorem c252_25 : qx_code 252 25 = some (25, .if_icmp .ne 7, 28, 32, 0, 0) := by decide +kernel
theorem s252_25 {L : Nat} {xs : Nat → Int32} {d x : Nat} {M : qxM} {st : List Value} {ls : qxL} {z y : Int32} : Rs L xs (d) 252 25 ls (.int y :: .int z :: st) M x = if z = y then Rs L xs (d) 252 28 ls st M x else Rs L xs (d) 252 32 ls st M x := Rs_ite c252_25 rfl
theorem c252_28 : qx_code 252 28 = some (28, .iconst 1, 29, 0, 0, 0) := by decide +kernel
theorem s252_28 {L : Nat} {xs : Nat → Int32} {d x : Nat} {M : qxM} {st : List Value} {ls : qxL} : Rs L xs (d) 252 28 ls st M x = Rs L xs (d) 252 29 ls (.int (nI 1) :: st) M x := Rs_next c252_28 rfl
theorem c252_29 : qx_code 252 29 = some (29, .goto 4, 32, 33, 0, 0) := by decide +kernel
theorem s252_29 {L : Nat} {xs : Nat → Int32} {d x : Nat} {M : qxM} {st : List Value} {ls : qxL} : Rs L xs (d) 252 29 ls st M x = Rs L xs (d) 252 33 ls st M x := Rs_next c252_29 rfl
theorem c252_32 : qx_code 252 32 = some (32, .iconst 0, 33, 0, 0, 0) := by decide +kernel
theorem s252_32 {L : Nat} {xs : Nat → Int32} {d x : Nat} {M : qxM} {st : List Value} {ls : qxL} : Rs L xs (d) 252 32 ls st M x = Rs L xs (d) 252 33 ls (.int (nI 0) :: st) M x := Rs_next c252_32 rfl
theorem c252_33 : qx_code 252 33 = some (33, .invokestatic 203, 36, 179, 1, 1785) := by decide +kernel
theorem s252_33 {L : Nat} {xs : Nat → Int32} {d x : Nat} {M : qxM} {st : List Value} {ls : qxL} {z0 : Int32} (hs : st.length ≤ 4) : Rs L xs (d + 1) 252 33 ls (.int z0 :: st) M x = (Rs L xs d 179 0 [some (.int z0)] [] M 0).bind (qx_kn L xs (d + 1) 252 33 36 179 ls st x) := by
  have h1 : qx_act L xs (qx_rt 252) (33, .invokestatic 203, 36, 179, 1, 1785) ls (.int z0 :: st) M = if 1 ≤ (.int z0 :: st).length ∧ st.length ≤ 4 then some (.inr (.inr (.inr (179, [.int z0], st)))) else none := rfl
  rw [if_pos ⟨by simp [List.length_cons]; try omega, hs⟩] at h1
  exact Rs_call c252_33 h1 rfl
theorem c252_36 : qx_code 252 36 = some (36, .iadd, 37, 0, 0, 0) := by decide +kernel
theorem s252_36 {L : Nat} {xs : Nat → Int32} {d x : Nat} {M : qxM} {st : List Value} {ls : qxL} {z y : Int32} : Rs L xs (d) 252 36 ls (.int y :: .int z :: st) M x = Rs L xs (d) 252 37 ls (.int (z + y) :: st) M x := Rs_next c252_36 rfl
theorem c252_37 : qx_code 252 37 = some (37, .istore_n 2, 38, 0, 0, 0) := by decide +kernel
theorem s252_37i {L : Nat} {xs : Nat → Int32} {d x : Nat} {M : qxM} {st : List Value} {a0 a2 a3 : Option Value} {z : Int32} {y : Int32} : Rs L xs (d) 252 37 [a0, some (.int y), a2, a3] (.int z :: st) M x = Rs L xs (d) 252 38 [a0, some (.int y), some (.int z), a3] st M x := Rs_next c252_37 rfl
theorem s252_37r {L : Nat} {xs : Nat → Int32} {d x : Nat} {M : qxM} {st : List Value} {a0 a2 a3 : Option Value} {z : Int32} {y : Nat} : Rs L xs (d) 252 37 [a0, some (.ref y), a2, a3] (.int z :: st) M x = Rs L xs (d) 252 38 [a0, some (.ref y), some (.int z), a3] st M x := Rs_next c252_37 rfl
theorem s252_37n {L : Nat} {xs : Nat → Int32} {d x : Nat} {M : qxM} {st : List Value} {a0 a2 a3 : Option Value} {z : Int32} : Rs L xs (d) 252 37 [a0, none, a2, a3] (.int z :: st) M x = Rs L xs (d) 252 38 [a0, none, some (.int z), a3] st M x := Rs_next c252_37 rfl
theorem c252_38 : qx_code 252 38 = some (38, .iinc 3 1, 41, 0, 0, 0) := by decide +kernel
theorem s252_38i {L : Nat} {xs : Nat → Int32} {d x : Nat} {M : qxM} {st : List Value} {a0 a1 : Option Value} {z : Int32} {y : Int32} : Rs L xs (d) 252 38 [a0, a1, some (.int y), some (.int z)] st M x = Rs L xs (d) 252 41 [a0, a1, some (.int y), some (.int (z + (nI 1)))] st M x := Rs_next c252_38 rfl
theorem s252_38r {L : Nat} {xs : Nat → Int32} {d x : Nat} {M : qxM} {st : List Value} {a0 a1 : Option Value} {z : Int32} {y : Nat} : Rs L xs (d) 252 38 [a0, a1, some (.ref y), some (.int z)] st M x = Rs L xs (d) 252 41 [a0, a1, some (.ref y), some (.int (z + (nI 1)))] st M x := Rs_next c252_38 rfl
theorem s252_38n {L : Nat} {xs : Nat → Int32} {d x : Nat} {M : qxM} {st : List Value} {a0 a1 : Option Value} {z : Int32} : Rs L xs (d) 252 38 [a0, a1, none, some (.int z)] st M x = Rs L xs (d) 252 41 [a0, a1, none, some (.int (z + (nI 1)))] st M x := Rs_next c252_38 rfl
theorem c252_41 : qx_code 252 41 = some (41, .goto (-37), 44, 4, 0, 0) := by decide +kernel
theorem s252_41 {L : Nat} {xs : Nat → Int32} {d x : Nat} {M : qxM} {st : List Value} {ls : qxL} : Rs L xs (d) 252 41 ls st M x = Rs L xs (d) 252 4 ls st M x := Rs_next c252_41 rfl
theorem c252_44 : qx_code 252 44 = some (44, .iload_n 2, 45, 0, 0, 0) := by decide +kernel
theorem s252_44 {L : Nat} {xs : Nat → Int32} {d x : Nat} {M : qxM} {st : List Value} {a0 a1 a3 : Option Value} {z : Int32} : Rs L xs (d) 252 44 [a0, a1, some (.int z), a3] st M x = Rs L xs (d) 252 45 [a0, a1, some (.int z), a3] (.int z :: st) M x := Rs_next c252_44 rfl
theorem c252_45 : qx_code 252 45 = some (45, .ireturn, 46, 0, 0, 0) := by decide +kernel
theorem s252_45 {L : Nat} {xs : Nat → Int32} {d x : Nat} {M : qxM} {ls : qxL} {z : Int32} : Rs L xs (d) 252 45 ls [.int z] M x = some (.inl (some (.int z)), M, x) := Rs_ret c252_45 rfl
theorem c253_0 : qx_code 253 0 = some (0, .iconst 0, 1, 0, 0, 0) := by decide +kernel
theorem s253_0 {L : Nat} {xs : Nat → Int32} {d x : Nat} {M : qxM} {st : List Value} {ls : qxL} : Rs L xs (d) 253 0 ls st M x = Rs L xs (d) 253 1 ls (.int (nI 0) :: st) M x := Rs_next c253_0 rfl
theorem c253_1 : qx_code 253 1 = some (1, .istore_n 2, 2, 0, 0, 0) := by decide +kernel
theorem s253_1i {L : Nat} {xs : Nat → Int32} {d x : Nat} {M : qxM} {st : List Value} {a0 a2 a3 : Option Value} {z : Int32} {y : Int32} : Rs L xs (d) 253 1 [a0, some (.int y), a2, a3] (.int z :: st) M x = Rs L xs (d) 253 2 [a0, some (.int y), some (.int z), a3] st M x := Rs_next c253_1 rfl
theorem s253_1r {L : Nat} {xs : Nat → Int32} {d x : Nat} {M : qxM} {st : List Value} {a0 a2 a3 : Option Value} {z : Int32} {y : Nat} : Rs L xs (d) 253 1 [a0, some (.ref y), a2, a3] (.int z :: st) M x = Rs L xs (d) 253 2 [a0, some (.ref y), some (.int z), a3] st M x := Rs_next c253_1 rfl
theorem s253_1n {L : Nat} {xs : Nat → Int32} {d x : Nat} {M : qxM} {st : List Value} {a0 a2 a3 : Option Value} {z : Int32} : Rs L xs (d) 253 1 [a0, none, a2, a3] (.int z :: st) M x = Rs L xs (d) 253 2 [a0, none, some (.int z), a3] st M x := Rs_next c253_1 rfl
theorem c253_2 : qx_code 253 2 = some (2, .iconst 0, 3, 0, 0, 0) := by decide +kernel
theorem s253_2 {L : Nat} {xs : Nat → Int32} {d x : Nat} {M : qxM} {st : List Value} {ls : qxL} : Rs L xs (d) 253 2 ls st M x = Rs L xs (d) 253 3 ls (.int (nI 0) :: st) M x := Rs_next c253_2 rfl
theorem c253_3 : qx_code 253 3 = some (3, .istore_n 3, 4, 0, 0, 0) := by decide +kernel
theorem s253_3i {L : Nat} {xs : Nat → Int32} {d x : Nat} {M : qxM} {st : List Value} {a0 a1 a3 : Option Value} {z : Int32} {y : Int32} : Rs L xs (d) 253 3 [a0, a1, some (.int y), a3] (.int z :: st) M x = Rs L xs (d) 253 4 [a0, a1, some (.int y), some (.int z)] st M x := Rs_next c253_3 rfl
theorem s253_3r {L : Nat} {xs : Nat → Int32} {d x : Nat} {M : qxM} {st : List Value} {a0 a1 a3 : Option Value} {z : Int32} {y : Nat} : Rs L xs (d) 253 3 [a0, a1, some (.ref y), a3] (.int z :: st) M x = Rs L xs (d) 253 4 [a0, a1, some (.ref y), some (.int z)] st M x := Rs_next c253_3 rfl
theorem s253_3n {L : Nat} {xs : Nat → Int32} {d x : Nat} {M : qxM} {st : List Value} {a0 a1 a3 : Option Value} {z : Int32} : Rs L xs (d) 253 3 [a0, a1, none, a3] (.int z :: st) M x = Rs L xs (d) 253 4 [a0, a1, none, some (.int z)] st M x := Rs_next c253_3 rfl
theorem c253_4 : qx_code 253 4 = some (4, .iload_n 3, 5, 0, 0, 0) := by decide +kernel
theorem s253_4 {L : Nat} {xs : Nat → Int32} {d x : Nat} {M : qxM} {st : List Value} {a0 a1 a2 : Option Value} {z : Int32} : Rs L xs (d) 253 4 [a0, a1, a2, some (.int z)] st M x = Rs L xs (d) 253 5 [a0, a1, a2, some (.int z)] (.int z :: st) M x := Rs_next c253_4 rfl
theorem c253_5 : qx_code 253 5 = some (5, .aload_n 0, 6, 0, 0, 0) := by decide +kernel
theorem s253_5 {L : Nat} {xs : Nat → Int32} {d x : Nat} {M : qxM} {st : List Value} {a1 a2 a3 : Option Value} {z : Nat} : Rs L xs (d) 253 5 [some (.ref z), a1, a2, a3] st M x = Rs L xs (d) 253 6 [some (.ref z), a1, a2, a3] (.ref z :: st) M x := Rs_next c253_5 rfl
theorem c253_6 : qx_code 253 6 = some (6, .getfield 9, 9, 8, 1, 1546) := by decide +kernel
theorem s253_6 {L : Nat} {xs : Nat → Int32} {d x : Nat} {M : qxM} {st : List Value} {ls : qxL} {t : Nat} (hk : qx_kd t = 18) : Rs L xs (d) 253 6 ls (.ref t :: st) M x = Rs L xs (d) 253 9 ls (.ref (t + 1) :: st) M x := Rs_when (qx_kd_obj (k := 8) (by decide) hk) c253_6 rfl
theorem c253_9 : qx_code 253 9 = some (9, .iconst 0, 10, 0, 0, 0) := by decide +kernel
theorem s253_9 {L : Nat} {xs : Nat → Int32} {d x : Nat} {M : qxM} {st : List Value} {ls : qxL} : Rs L xs (d) 253 9 ls st M x = Rs L xs (d) 253 10 ls (.int (nI 0) :: st) M x := Rs_next c253_9 rfl
theorem c253_10 : qx_code 253 10 = some (10, .iaload, 11, 0, 0, 0) := by decide +kernel
theorem s253_10 {L : Nat} {xs : Nat → Int32} {d x : Nat} {M : qxM} {st : List Value} {ls : qxL} {t : Nat} {j : Int32} (hk : qx_kd t = 0) (hj : qx_ib j (qx_ln t) = true) : Rs L xs (d) 253 10 ls (.int j :: .ref t :: st) M x = Rs L xs (d) 253 11 ls (.int (M.1 t j.toNatClampNeg) :: st) M x := by
  have h1 := qx_kd_row (k := 0) (by decide) hk
  exact Rs_unless (qx_ib_not hj) c253_10 (by unfold qx_act; dsimp only; rw [h1]; rfl)
theorem c253_11 : qx_code 253 11 = some (11, .if_icmp .ge 35, 14, 46, 0, 0) := by decide +kernel
theorem s253_11 {L : Nat} {xs : Nat → Int32} {d x : Nat} {M : qxM} {st : List Value} {ls : qxL} {z y : Int32} : Rs L xs (d) 253 11 ls (.int y :: .int z :: st) M x = if y ≤ z then Rs L xs (d) 253 46 ls st M x else Rs L xs (d) 253 14 ls st M x := Rs_ite c253_11 rfl
theorem c253_14 : qx_code 253 14 = some (14, .iload_n 2, 15, 0, 0, 0) := by decide +kernel
theorem s253_14 {L : Nat} {xs : Nat → Int32} {d x : Nat} {M : qxM} {st : List Value} {a0 a1 a3 : Option Value} {z : Int32} : Rs L xs (d) 253 14 [a0, a1, some (.int z), a3] st M x = Rs L xs (d) 253 15 [a0, a1, some (.int z), a3] (.int z :: st) M x := Rs_next c253_14 rfl
theorem c253_15 : qx_code 253 15 = some (15, .aload_n 0, 16, 0, 0, 0) := by decide +kernel
theorem s253_15 {L : Nat} {xs : Nat → Int32} {d x : Nat} {M : qxM} {st : List Value} {a1 a2 a3 : Option Value} {z : Nat} : Rs L xs (d) 253 15 [some (.ref z), a1, a2, a3] st M x = Rs L xs (d) 253 16 [some (.ref z), a1, a2, a3] (.ref z :: st) M x := Rs_next c253_15 rfl
theorem c253_16 : qx_code 253 16 = some (16, .getfield 9, 19, 8, 1, 1546) := by decide +kernel
theorem s253_16 {L : Nat} {xs : Nat → Int32} {d x : Nat} {M : qxM} {st : List Value} {ls : qxL} {t : Nat} (hk : qx_kd t = 18) : Rs L xs (d) 253 16 ls (.ref t :: st) M x = Rs L xs (d) 253 19 ls (.ref (t + 1) :: st) M x := Rs_when (qx_kd_obj (k := 8) (by decide) hk) c253_16 rfl
theorem c253_19 : qx_code 253 19 = some (19, .bipush 69, 21, 0, 0, 0) := by decide +kernel
theorem s253_19 {L : Nat} {xs : Nat → Int32} {d x : Nat} {M : qxM} {st : List Value} {ls : qxL} : Rs L xs (d) 253 19 ls st M x = Rs L xs (d) 253 21 ls (.int (nI 69) :: st) M x := Rs_next c253_19 rfl
theorem c253_21 : qx_code 253 21 = some (21, .iload_n 3, 22, 0, 0, 0) := by decide +kernel
theorem s253_21 {L : Nat} {xs : Nat → Int32} {d x : Nat} {M : qxM} {st : List Value} {a0 a1 a2 : Option Value} {z : Int32} : Rs L xs (d) 253 21 [a0, a1, a2, some (.int z)] st M x = Rs L xs (d) 253 22 [a0, a1, a2, some (.int z)] (.int z :: st) M x := Rs_next c253_21 rfl
theorem c253_22 : qx_code 253 22 = some (22, .iadd, 23, 0, 0, 0) := by decide +kernel
theorem s253_22 {L : Nat} {xs : Nat → Int32} {d x : Nat} {M : qxM} {st : List Value} {ls : qxL} {z y : Int32} : Rs L xs (d) 253 22 ls (.int y :: .int z :: st) M x = Rs L xs (d) 253 23 ls (.int (z + y) :: st) M x := Rs_next c253_22 rfl
theorem c253_23 : qx_code 253 23 = some (23, .iaload, 24, 0, 0, 0) := by decide +kernel
theorem s253_23 {L : Nat} {xs : Nat → Int32} {d x : Nat} {M : qxM} {st : List Value} {ls : qxL} {t : Nat} {j : Int32} (hk : qx_kd t = 0) (hj : qx_ib j (qx_ln t) = true) : Rs L xs (d) 253 23 ls (.int j :: .ref t :: st) M x = Rs L xs (d) 253 24 ls (.int (M.1 t j.toNatClampNeg) :: st) M x := by
  have h1 := qx_kd_row (k := 0) (by decide) hk
  exact Rs_unless (qx_ib_not hj) c253_23 (by unfold qx_act; dsimp only; rw [h1]; rfl)
theorem c253_24 : qx_code 253 24 = some (24, .iload_n 1, 25, 0, 0, 0) := by decide +kernel
theorem s253_24 {L : Nat} {xs : Nat → Int32} {d x : Nat} {M : qxM} {st : List Value} {a0 a2 a3 : Option Value} {z : Int32} : Rs L xs (d) 253 24 [a0, some (.int z), a2, a3] st M x = Rs L xs (d) 253 25 [a0, some (.int z), a2, a3] (.int z :: st) M x := Rs_next c253_24 rfl
theorem c253_25 : qx_code 253 25 = some (25, .if_icmp .ne 7, 28, 32, 0, 0) := by decide +kernel
theorem s253_25 {L : Nat} {xs : Nat → Int32} {d x : Nat} {M : qxM} {st : List Value} {ls : qxL} {z y : Int32} : Rs L xs (d) 253 25 ls (.int y :: .int z :: st) M x = if z = y then Rs L xs (d) 253 28 ls st M x else Rs L xs (d) 253 32 ls st M x := Rs_ite c253_25 rfl
theorem c253_28 : qx_code 253 28 = some (28, .iconst 1, 29, 0, 0, 0) := by decide +kernel
theorem s253_28 {L : Nat} {xs : Nat → Int32} {d x : Nat} {M : qxM} {st : List Value} {ls : qxL} : Rs L xs (d) 253 28 ls st M x = Rs L xs (d) 253 29 ls (.int (nI 1) :: st) M x := Rs_next c253_28 rfl
theorem c253_29 : qx_code 253 29 = some (29, .goto 4, 32, 33, 0, 0) := by decide +kernel
theorem s253_29 {L : Nat} {xs : Nat → Int32} {d x : Nat} {M : qxM} {st : List Value} {ls : qxL} : Rs L xs (d) 253 29 ls st M x = Rs L xs (d) 253 33 ls st M x := Rs_next c253_29 rfl
theorem c253_32 : qx_code 253 32 = some (32, .iconst 0, 33, 0, 0, 0) := by decide +kernel
theorem s253_32 {L : Nat} {xs : Nat → Int32} {d x : Nat} {M : qxM} {st : List Value} {ls : qxL} : Rs L xs (d) 253 32 ls st M x = Rs L xs (d) 253 33 ls (.int (nI 0) :: st) M x := Rs_next c253_32 rfl
theorem c253_33 : qx_code 253 33 = some (33, .invokestatic 203, 36, 179, 1, 1785) := by decide +kernel
theorem s253_33 {L : Nat} {xs : Nat → Int32} {d x : Nat} {M : qxM} {st : List Value} {ls : qxL} {z0 : Int32} (hs : st.length ≤ 4) : Rs L xs (d + 1) 253 33 ls (.int z0 :: st) M x = (Rs L xs d 179 0 [some (.int z0)] [] M 0).bind (qx_kn L xs (d + 1) 253 33 36 179 ls st x) := by
  have h1 : qx_act L xs (qx_rt 253) (33, .invokestatic 203, 36, 179, 1, 1785) ls (.int z0 :: st) M = if 1 ≤ (.int z0 :: st).length ∧ st.length ≤ 4 then some (.inr (.inr (.inr (179, [.int z0], st)))) else none := rfl
  rw [if_pos ⟨by simp [List.length_cons]; try omega, hs⟩] at h1
  exact Rs_call c253_33 h1 rfl
theorem c253_36 : qx_code 253 36 = some (36, .iload_n 3, 37, 0, 0, 0) := by decide +kernel
theorem s253_36 {L : Nat} {xs : Nat → Int32} {d x : Nat} {M : qxM} {st : List Value} {a0 a1 a2 : Option Value} {z : Int32} : Rs L xs (d) 253 36 [a0, a1, a2, some (.int z)] st M x = Rs L xs (d) 253 37 [a0, a1, a2, some (.int z)] (.int z :: st) M x := Rs_next c253_36 rfl
theorem c253_37 : qx_code 253 37 = some (37, .ishl, 38, 0, 0, 0) := by decide +kernel
theorem s253_37 {L : Nat} {xs : Nat → Int32} {d x : Nat} {M : qxM} {st : List Value} {ls : qxL} {z y : Int32} : Rs L xs (d) 253 37 ls (.int y :: .int z :: st) M x = Rs L xs (d) 253 38 ls (.int (z <<< (y &&& 31)) :: st) M x := Rs_next c253_37 rfl
theorem c253_38 : qx_code 253 38 = some (38, .ior, 39, 0, 0, 0) := by decide +kernel
theorem s253_38 {L : Nat} {xs : Nat → Int32} {d x : Nat} {M : qxM} {st : List Value} {ls : qxL} {z y : Int32} : Rs L xs (d) 253 38 ls (.int y :: .int z :: st) M x = Rs L xs (d) 253 39 ls (.int (z ||| y) :: st) M x := Rs_next c253_38 rfl
theorem c253_39 : qx_code 253 39 = some (39, .istore_n 2, 40, 0, 0, 0) := by decide +kernel
theorem s253_39i {L : Nat} {xs : Nat → Int32} {d x : Nat} {M : qxM} {st : List Value} {a0 a2 a3 : Option Value} {z : Int32} {y : Int32} : Rs L xs (d) 253 39 [a0, some (.int y), a2, a3] (.int z :: st) M x = Rs L xs (d) 253 40 [a0, some (.int y), some (.int z), a3] st M x := Rs_next c253_39 rfl
theorem s253_39r {L : Nat} {xs : Nat → Int32} {d x : Nat} {M : qxM} {st : List Value} {a0 a2 a3 : Option Value} {z : Int32} {y : Nat} : Rs L xs (d) 253 39 [a0, some (.ref y), a2, a3] (.int z :: st) M x = Rs L xs (d) 253 40 [a0, some (.ref y), some (.int z), a3] st M x := Rs_next c253_39 rfl
theorem s253_39n {L : Nat} {xs : Nat → Int32} {d x : Nat} {M : qxM} {st : List Value} {a0 a2 a3 : Option Value} {z : Int32} : Rs L xs (d) 253 39 [a0, none, a2, a3] (.int z :: st) M x = Rs L xs (d) 253 40 [a0, none, some (.int z), a3] st M x := Rs_next c253_39 rfl
theorem c253_40 : qx_code 253 40 = some (40, .iinc 3 1, 43, 0, 0, 0) := by decide +kernel
theorem s253_40i {L : Nat} {xs : Nat → Int32} {d x : Nat} {M : qxM} {st : List Value} {a0 a1 : Option Value} {z : Int32} {y : Int32} : Rs L xs (d) 253 40 [a0, a1, some (.int y), some (.int z)] st M x = Rs L xs (d) 253 43 [a0, a1, some (.int y), some (.int (z + (nI 1)))] st M x := Rs_next c253_40 rfl
theorem s253_40r {L : Nat} {xs : Nat → Int32} {d x : Nat} {M : qxM} {st : List Value} {a0 a1 : Option Value} {z : Int32} {y : Nat} : Rs L xs (d) 253 40 [a0, a1, some (.ref y), some (.int z)] st M x = Rs L xs (d) 253 43 [a0, a1, some (.ref y), some (.int (z + (nI 1)))] st M x := Rs_next c253_40 rfl
theorem s253_40n {L : Nat} {xs : Nat → Int32} {d x : Nat} {M : qxM} {st : List Value} {a0 a1 : Option Value} {z : Int32} : Rs L xs (d) 253 40 [a0, a1, none, some (.int z)] st M x = Rs L xs (d) 253 43 [a0, a1, none, some (.int (z + (nI 1)))] st M x := Rs_next c253_40 rfl
theorem c253_43 : qx_code 253 43 = some (43, .goto (-39), 46, 4, 0, 0) := by decide +kernel
theorem s253_43 {L : Nat} {xs : Nat → Int32} {d x : Nat} {M : qxM} {st : List Value} {ls : qxL} : Rs L xs (d) 253 43 ls st M x = Rs L xs (d) 253 4 ls st M x := Rs_next c253_43 rfl
theorem c253_46 : qx_code 253 46 = some (46, .iload_n 2, 47, 0, 0, 0) := by decide +kernel
theorem s253_46 {L : Nat} {xs : Nat → Int32} {d x : Nat} {M : qxM} {st : List Value} {a0 a1 a3 : Option Value} {z : Int32} : Rs L xs (d) 253 46 [a0, a1, some (.int z), a3] st M x = Rs L xs (d) 253 47 [a0, a1, some (.int z), a3] (.int z :: st) M x := Rs_next c253_46 rfl
theorem c253_47 : qx_code 253 47 = some (47, .ireturn, 48, 0, 0, 0) := by decide +kernel
theorem s253_47 {L : Nat} {xs : Nat → Int32} {d x : Nat} {M : qxM} {ls : qxL} {z : Int32} : Rs L xs (d) 253 47 ls [.int z] M x = some (.inl (some (.int z)), M, x) := Rs_ret c253_47 rfl
theorem c254_0 : qx_code 254 0 = some (0, .iconst 0, 1, 0, 0, 0) := by decide +kernel
theorem s254_0 {L : Nat} {xs : Nat → Int32} {d x : Nat} {M : qxM} {st : List Value} {ls : qxL} : Rs L xs (d) 254 0 ls st M x = Rs L xs (d) 254 1 ls (.int (nI 0) :: st) M x := Rs_next c254_0 rfl
theorem c254_1 : qx_code 254 1 = some (1, .istore_n 2, 2, 0, 0, 0) := by decide +kernel
theorem s254_1i {L : Nat} {xs : Nat → Int32} {d x : Nat} {M : qxM} {st : List Value} {a0 a2 a3 : Option Value} {z : Int32} {y : Int32} : Rs L xs (d) 254 1 [a0, some (.int y), a2, a3] (.int z :: st) M x = Rs L xs (d) 254 2 [a0, some (.int y), some (.int z), a3] st M x := Rs_next c254_1 rfl
theorem s254_1r {L : Nat} {xs : Nat → Int32} {d x : Nat} {M : qxM} {st : List Value} {a0 a2 a3 : Option Value} {z : Int32} {y : Nat} : Rs L xs (d) 254 1 [a0, some (.ref y), a2, a3] (.int z :: st) M x = Rs L xs (d) 254 2 [a0, some (.ref y), some (.int z), a3] st M x := Rs_next c254_1 rfl
theorem s254_1n {L : Nat} {xs : Nat → Int32} {d x : Nat} {M : qxM} {st : List Value} {a0 a2 a3 : Option Value} {z : Int32} : Rs L xs (d) 254 1 [a0, none, a2, a3] (.int z :: st) M x = Rs L xs (d) 254 2 [a0, none, some (.int z), a3] st M x := Rs_next c254_1 rfl
theorem c254_2 : qx_code 254 2 = some (2, .iconst 0, 3, 0, 0, 0) := by decide +kernel
theorem s254_2 {L : Nat} {xs : Nat → Int32} {d x : Nat} {M : qxM} {st : List Value} {ls : qxL} : Rs L xs (d) 254 2 ls st M x = Rs L xs (d) 254 3 ls (.int (nI 0) :: st) M x := Rs_next c254_2 rfl
theorem c254_3 : qx_code 254 3 = some (3, .istore_n 3, 4, 0, 0, 0) := by decide +kernel
theorem s254_3i {L : Nat} {xs : Nat → Int32} {d x : Nat} {M : qxM} {st : List Value} {a0 a1 a3 : Option Value} {z : Int32} {y : Int32} : Rs L xs (d) 254 3 [a0, a1, some (.int y), a3] (.int z :: st) M x = Rs L xs (d) 254 4 [a0, a1, some (.int y), some (.int z)] st M x := Rs_next c254_3 rfl
theorem s254_3r {L : Nat} {xs : Nat → Int32} {d x : Nat} {M : qxM} {st : List Value} {a0 a1 a3 : Option Value} {z : Int32} {y : Nat} : Rs L xs (d) 254 3 [a0, a1, some (.ref y), a3] (.int z :: st) M x = Rs L xs (d) 254 4 [a0, a1, some (.ref y), some (.int z)] st M x := Rs_next c254_3 rfl
theorem s254_3n {L : Nat} {xs : Nat → Int32} {d x : Nat} {M : qxM} {st : List Value} {a0 a1 a3 : Option Value} {z : Int32} : Rs L xs (d) 254 3 [a0, a1, none, a3] (.int z :: st) M x = Rs L xs (d) 254 4 [a0, a1, none, some (.int z)] st M x := Rs_next c254_3 rfl
theorem c254_4 : qx_code 254 4 = some (4, .iload_n 3, 5, 0, 0, 0) := by decide +kernel
theorem s254_4 {L : Nat} {xs : Nat → Int32} {d x : Nat} {M : qxM} {st : List Value} {a0 a1 a2 : Option Value} {z : Int32} : Rs L xs (d) 254 4 [a0, a1, a2, some (.int z)] st M x = Rs L xs (d) 254 5 [a0, a1, a2, some (.int z)] (.int z :: st) M x := Rs_next c254_4 rfl
theorem c254_5 : qx_code 254 5 = some (5, .aload_n 0, 6, 0, 0, 0) := by decide +kernel
theorem s254_5 {L : Nat} {xs : Nat → Int32} {d x : Nat} {M : qxM} {st : List Value} {a1 a2 a3 : Option Value} {z : Nat} : Rs L xs (d) 254 5 [some (.ref z), a1, a2, a3] st M x = Rs L xs (d) 254 6 [some (.ref z), a1, a2, a3] (.ref z :: st) M x := Rs_next c254_5 rfl
theorem c254_6 : qx_code 254 6 = some (6, .getfield 9, 9, 8, 1, 1546) := by decide +kernel
theorem s254_6 {L : Nat} {xs : Nat → Int32} {d x : Nat} {M : qxM} {st : List Value} {ls : qxL} {t : Nat} (hk : qx_kd t = 18) : Rs L xs (d) 254 6 ls (.ref t :: st) M x = Rs L xs (d) 254 9 ls (.ref (t + 1) :: st) M x := Rs_when (qx_kd_obj (k := 8) (by decide) hk) c254_6 rfl
theorem c254_9 : qx_code 254 9 = some (9, .iconst 0, 10, 0, 0, 0) := by decide +kernel
theorem s254_9 {L : Nat} {xs : Nat → Int32} {d x : Nat} {M : qxM} {st : List Value} {ls : qxL} : Rs L xs (d) 254 9 ls st M x = Rs L xs (d) 254 10 ls (.int (nI 0) :: st) M x := Rs_next c254_9 rfl
theorem c254_10 : qx_code 254 10 = some (10, .iaload, 11, 0, 0, 0) := by decide +kernel
theorem s254_10 {L : Nat} {xs : Nat → Int32} {d x : Nat} {M : qxM} {st : List Value} {ls : qxL} {t : Nat} {j : Int32} (hk : qx_kd t = 0) (hj : qx_ib j (qx_ln t) = true) : Rs L xs (d) 254 10 ls (.int j :: .ref t :: st) M x = Rs L xs (d) 254 11 ls (.int (M.1 t j.toNatClampNeg) :: st) M x := by
  have h1 := qx_kd_row (k := 0) (by decide) hk
  exact Rs_unless (qx_ib_not hj) c254_10 (by unfold qx_act; dsimp only; rw [h1]; rfl)
theorem c254_11 : qx_code 254 11 = some (11, .if_icmp .ge 45, 14, 56, 0, 0) := by decide +kernel
theorem s254_11 {L : Nat} {xs : Nat → Int32} {d x : Nat} {M : qxM} {st : List Value} {ls : qxL} {z y : Int32} : Rs L xs (d) 254 11 ls (.int y :: .int z :: st) M x = if y ≤ z then Rs L xs (d) 254 56 ls st M x else Rs L xs (d) 254 14 ls st M x := Rs_ite c254_11 rfl
theorem c254_14 : qx_code 254 14 = some (14, .iload_n 2, 15, 0, 0, 0) := by decide +kernel
theorem s254_14 {L : Nat} {xs : Nat → Int32} {d x : Nat} {M : qxM} {st : List Value} {a0 a1 a3 : Option Value} {z : Int32} : Rs L xs (d) 254 14 [a0, a1, some (.int z), a3] st M x = Rs L xs (d) 254 15 [a0, a1, some (.int z), a3] (.int z :: st) M x := Rs_next c254_14 rfl
theorem c254_15 : qx_code 254 15 = some (15, .aload_n 0, 16, 0, 0, 0) := by decide +kernel
theorem s254_15 {L : Nat} {xs : Nat → Int32} {d x : Nat} {M : qxM} {st : List Value} {a1 a2 a3 : Option Value} {z : Nat} : Rs L xs (d) 254 15 [some (.ref z), a1, a2, a3] st M x = Rs L xs (d) 254 16 [some (.ref z), a1, a2, a3] (.ref z :: st) M x := Rs_next c254_15 rfl
theorem c254_16 : qx_code 254 16 = some (16, .getfield 9, 19, 8, 1, 1546) := by decide +kernel
theorem s254_16 {L : Nat} {xs : Nat → Int32} {d x : Nat} {M : qxM} {st : List Value} {ls : qxL} {t : Nat} (hk : qx_kd t = 18) : Rs L xs (d) 254 16 ls (.ref t :: st) M x = Rs L xs (d) 254 19 ls (.ref (t + 1) :: st) M x := Rs_when (qx_kd_obj (k := 8) (by decide) hk) c254_16 rfl
theorem c254_19 : qx_code 254 19 = some (19, .bipush 69, 21, 0, 0, 0) := by decide +kernel
theorem s254_19 {L : Nat} {xs : Nat → Int32} {d x : Nat} {M : qxM} {st : List Value} {ls : qxL} : Rs L xs (d) 254 19 ls st M x = Rs L xs (d) 254 21 ls (.int (nI 69) :: st) M x := Rs_next c254_19 rfl
theorem c254_21 : qx_code 254 21 = some (21, .iload_n 3, 22, 0, 0, 0) := by decide +kernel
theorem s254_21 {L : Nat} {xs : Nat → Int32} {d x : Nat} {M : qxM} {st : List Value} {a0 a1 a2 : Option Value} {z : Int32} : Rs L xs (d) 254 21 [a0, a1, a2, some (.int z)] st M x = Rs L xs (d) 254 22 [a0, a1, a2, some (.int z)] (.int z :: st) M x := Rs_next c254_21 rfl
theorem c254_22 : qx_code 254 22 = some (22, .iadd, 23, 0, 0, 0) := by decide +kernel
theorem s254_22 {L : Nat} {xs : Nat → Int32} {d x : Nat} {M : qxM} {st : List Value} {ls : qxL} {z y : Int32} : Rs L xs (d) 254 22 ls (.int y :: .int z :: st) M x = Rs L xs (d) 254 23 ls (.int (z + y) :: st) M x := Rs_next c254_22 rfl
theorem c254_23 : qx_code 254 23 = some (23, .iaload, 24, 0, 0, 0) := by decide +kernel
theorem s254_23 {L : Nat} {xs : Nat → Int32} {d x : Nat} {M : qxM} {st : List Value} {ls : qxL} {t : Nat} {j : Int32} (hk : qx_kd t = 0) (hj : qx_ib j (qx_ln t) = true) : Rs L xs (d) 254 23 ls (.int j :: .ref t :: st) M x = Rs L xs (d) 254 24 ls (.int (M.1 t j.toNatClampNeg) :: st) M x := by
  have h1 := qx_kd_row (k := 0) (by decide) hk
  exact Rs_unless (qx_ib_not hj) c254_23 (by unfold qx_act; dsimp only; rw [h1]; rfl)
theorem c254_24 : qx_code 254 24 = some (24, .iload_n 3, 25, 0, 0, 0) := by decide +kernel
theorem s254_24 {L : Nat} {xs : Nat → Int32} {d x : Nat} {M : qxM} {st : List Value} {a0 a1 a2 : Option Value} {z : Int32} : Rs L xs (d) 254 24 [a0, a1, a2, some (.int z)] st M x = Rs L xs (d) 254 25 [a0, a1, a2, some (.int z)] (.int z :: st) M x := Rs_next c254_24 rfl
theorem c254_25 : qx_code 254 25 = some (25, .if_icmp .ne 19, 28, 44, 0, 0) := by decide +kernel
theorem s254_25 {L : Nat} {xs : Nat → Int32} {d x : Nat} {M : qxM} {st : List Value} {ls : qxL} {z y : Int32} : Rs L xs (d) 254 25 ls (.int y :: .int z :: st) M x = if z = y then Rs L xs (d) 254 28 ls st M x else Rs L xs (d) 254 44 ls st M x := Rs_ite c254_25 rfl
theorem c254_28 : qx_code 254 28 = some (28, .aload_n 0, 29, 0, 0, 0) := by decide +kernel
theorem s254_28 {L : Nat} {xs : Nat → Int32} {d x : Nat} {M : qxM} {st : List Value} {a1 a2 a3 : Option Value} {z : Nat} : Rs L xs (d) 254 28 [some (.ref z), a1, a2, a3] st M x = Rs L xs (d) 254 29 [some (.ref z), a1, a2, a3] (.ref z :: st) M x := Rs_next c254_28 rfl
theorem c254_29 : qx_code 254 29 = some (29, .iload_n 3, 30, 0, 0, 0) := by decide +kernel
theorem s254_29 {L : Nat} {xs : Nat → Int32} {d x : Nat} {M : qxM} {st : List Value} {a0 a1 a2 : Option Value} {z : Int32} : Rs L xs (d) 254 29 [a0, a1, a2, some (.int z)] st M x = Rs L xs (d) 254 30 [a0, a1, a2, some (.int z)] (.int z :: st) M x := Rs_next c254_29 rfl
theorem c254_30 : qx_code 254 30 = some (30, .invokevirtual 291, 33, 253, 2, 1850) := by decide +kernel
theorem s254_30 {L : Nat} {xs : Nat → Int32} {d x : Nat} {M : qxM} {st : List Value} {ls : qxL} {t : Nat} {z0 : Int32} (hk : qx_kd t = 18) (hs : st.length ≤ 4) : Rs L xs (d + 1) 254 30 ls (.int z0 :: .ref t :: st) M x = (Rs L xs d 253 0 [some (.ref t), some (.int z0), none, none] [] M 0).bind (qx_kn L xs (d + 1) 254 30 33 253 ls st x) := by
  have h1 : qx_act L xs (qx_rt 254) (30, .invokevirtual 291, 33, 253, 2, 1850) ls (.int z0 :: .ref t :: st) M = if 2 ≤ (.int z0 :: .ref t :: st).length ∧ st.length ≤ 4 then some (.inr (.inr (.inr (253, [.ref t, .int z0], st)))) else none := rfl
  rw [if_pos ⟨by simp [List.length_cons]; try omega, hs⟩] at h1
  have h2 := qx_kd_obj (k := 8) (by decide) hk
  exact Rs_call c254_30 h1 (by rw [show qx_args 253 [.ref t, .int z0] = decide (qx_sh t = some (.inl 8)) from rfl]; exact decide_eq_true h2)
theorem c254_33 : qx_code 254 33 = some (33, .invokestatic 194, 36, 209, 1, 1788) := by decide +kernel
theorem s254_33 {L : Nat} {xs : Nat → Int32} {d x : Nat} {M : qxM} {st : List Value} {ls : qxL} {z0 : Int32} (hs : st.length ≤ 4) : Rs L xs (d + 1) 254 33 ls (.int z0 :: st) M x = (Rs L xs d 209 0 [some (.int z0), none, none] [] M 0).bind (qx_kn L xs (d + 1) 254 33 36 209 ls st x) := by
  have h1 : qx_act L xs (qx_rt 254) (33, .invokestatic 194, 36, 209, 1, 1788) ls (.int z0 :: st) M = if 1 ≤ (.int z0 :: st).length ∧ st.length ≤ 4 then some (.inr (.inr (.inr (209, [.int z0], st)))) else none := rfl
  rw [if_pos ⟨by simp [List.length_cons]; try omega, hs⟩] at h1
  exact Rs_call c254_33 h1 rfl
theorem c254_36 : qx_code 254 36 = some (36, .iload_n 1, 37, 0, 0, 0) := by decide +kernel
theorem s254_36 {L : Nat} {xs : Nat → Int32} {d x : Nat} {M : qxM} {st : List Value} {a0 a2 a3 : Option Value} {z : Int32} : Rs L xs (d) 254 36 [a0, some (.int z), a2, a3] st M x = Rs L xs (d) 254 37 [a0, some (.int z), a2, a3] (.int z :: st) M x := Rs_next c254_36 rfl
theorem c254_37 : qx_code 254 37 = some (37, .if_icmp .lt 7, 40, 44, 0, 0) := by decide +kernel
theorem s254_37 {L : Nat} {xs : Nat → Int32} {d x : Nat} {M : qxM} {st : List Value} {ls : qxL} {z y : Int32} : Rs L xs (d) 254 37 ls (.int y :: .int z :: st) M x = if z < y then Rs L xs (d) 254 44 ls st M x else Rs L xs (d) 254 40 ls st M x := Rs_ite c254_37 rfl
theorem c254_40 : qx_code 254 40 = some (40, .iconst 1, 41, 0, 0, 0) := by decide +kernel
theorem s254_40 {L : Nat} {xs : Nat → Int32} {d x : Nat} {M : qxM} {st : List Value} {ls : qxL} : Rs L xs (d) 254 40 ls st M x = Rs L xs (d) 254 41 ls (.int (nI 1) :: st) M x := Rs_next c254_40 rfl
theorem c254_41 : qx_code 254 41 = some (41, .goto 4, 44, 45, 0, 0) := by decide +kernel
theorem s254_41 {L : Nat} {xs : Nat → Int32} {d x : Nat} {M : qxM} {st : List Value} {ls : qxL} : Rs L xs (d) 254 41 ls st M x = Rs L xs (d) 254 45 ls st M x := Rs_next c254_41 rfl
theorem c254_44 : qx_code 254 44 = some (44, .iconst 0, 45, 0, 0, 0) := by decide +kernel
theorem s254_44 {L : Nat} {xs : Nat → Int32} {d x : Nat} {M : qxM} {st : List Value} {ls : qxL} : Rs L xs (d) 254 44 ls st M x = Rs L xs (d) 254 45 ls (.int (nI 0) :: st) M x := Rs_next c254_44 rfl
theorem c254_45 : qx_code 254 45 = some (45, .invokestatic 203, 48, 179, 1, 1785) := by decide +kernel
theorem s254_45 {L : Nat} {xs : Nat → Int32} {d x : Nat} {M : qxM} {st : List Value} {ls : qxL} {z0 : Int32} (hs : st.length ≤ 4) : Rs L xs (d + 1) 254 45 ls (.int z0 :: st) M x = (Rs L xs d 179 0 [some (.int z0)] [] M 0).bind (qx_kn L xs (d + 1) 254 45 48 179 ls st x) := by
  have h1 : qx_act L xs (qx_rt 254) (45, .invokestatic 203, 48, 179, 1, 1785) ls (.int z0 :: st) M = if 1 ≤ (.int z0 :: st).length ∧ st.length ≤ 4 then some (.inr (.inr (.inr (179, [.int z0], st)))) else none := rfl
  rw [if_pos ⟨by simp [List.length_cons]; try omega, hs⟩] at h1
  exact Rs_call c254_45 h1 rfl
theorem c254_48 : qx_code 254 48 = some (48, .iadd, 49, 0, 0, 0) := by decide +kernel
theorem s254_48 {L : Nat} {xs : Nat → Int32} {d x : Nat} {M : qxM} {st : List Value} {ls : qxL} {z y : Int32} : Rs L xs (d) 254 48 ls (.int y :: .int z :: st) M x = Rs L xs (d) 254 49 ls (.int (z + y) :: st) M x := Rs_next c254_48 rfl
theorem c254_49 : qx_code 254 49 = some (49, .istore_n 2, 50, 0, 0, 0) := by decide +kernel
theorem s254_49i {L : Nat} {xs : Nat → Int32} {d x : Nat} {M : qxM} {st : List Value} {a0 a2 a3 : Option Value} {z : Int32} {y : Int32} : Rs L xs (d) 254 49 [a0, some (.int y), a2, a3] (.int z :: st) M x = Rs L xs (d) 254 50 [a0, some (.int y), some (.int z), a3] st M x := Rs_next c254_49 rfl
theorem s254_49r {L : Nat} {xs : Nat → Int32} {d x : Nat} {M : qxM} {st : List Value} {a0 a2 a3 : Option Value} {z : Int32} {y : Nat} : Rs L xs (d) 254 49 [a0, some (.ref y), a2, a3] (.int z :: st) M x = Rs L xs (d) 254 50 [a0, some (.ref y), some (.int z), a3] st M x := Rs_next c254_49 rfl
theorem s254_49n {L : Nat} {xs : Nat → Int32} {d x : Nat} {M : qxM} {st : List Value} {a0 a2 a3 : Option Value} {z : Int32} : Rs L xs (d) 254 49 [a0, none, a2, a3] (.int z :: st) M x = Rs L xs (d) 254 50 [a0, none, some (.int z), a3] st M x := Rs_next c254_49 rfl
theorem c254_50 : qx_code 254 50 = some (50, .iinc 3 1, 53, 0, 0, 0) := by decide +kernel
theorem s254_50i {L : Nat} {xs : Nat → Int32} {d x : Nat} {M : qxM} {st : List Value} {a0 a1 : Option Value} {z : Int32} {y : Int32} : Rs L xs (d) 254 50 [a0, a1, some (.int y), some (.int z)] st M x = Rs L xs (d) 254 53 [a0, a1, some (.int y), some (.int (z + (nI 1)))] st M x := Rs_next c254_50 rfl
theorem s254_50r {L : Nat} {xs : Nat → Int32} {d x : Nat} {M : qxM} {st : List Value} {a0 a1 : Option Value} {z : Int32} {y : Nat} : Rs L xs (d) 254 50 [a0, a1, some (.ref y), some (.int z)] st M x = Rs L xs (d) 254 53 [a0, a1, some (.ref y), some (.int (z + (nI 1)))] st M x := Rs_next c254_50 rfl
theorem s254_50n {L : Nat} {xs : Nat → Int32} {d x : Nat} {M : qxM} {st : List Value} {a0 a1 : Option Value} {z : Int32} : Rs L xs (d) 254 50 [a0, a1, none, some (.int z)] st M x = Rs L xs (d) 254 53 [a0, a1, none, some (.int (z + (nI 1)))] st M x := Rs_next c254_50 rfl
theorem c254_53 : qx_code 254 53 = some (53, .goto (-49), 56, 4, 0, 0) := by decide +kernel
theorem s254_53 {L : Nat} {xs : Nat → Int32} {d x : Nat} {M : qxM} {st : List Value} {ls : qxL} : Rs L xs (d) 254 53 ls st M x = Rs L xs (d) 254 4 ls st M x := Rs_next c254_53 rfl
theorem c254_56 : qx_code 254 56 = some (56, .iload_n 2, 57, 0, 0, 0) := by decide +kernel
theorem s254_56 {L : Nat} {xs : Nat → Int32} {d x : Nat} {M : qxM} {st : List Value} {a0 a1 a3 : Option Value} {z : Int32} : Rs L xs (d) 254 56 [a0, a1, some (.int z), a3] st M x = Rs L xs (d) 254 57 [a0, a1, some (.int z), a3] (.int z :: st) M x := Rs_next c254_56 rfl
theorem c254_57 : qx_code 254 57 = some (57, .ireturn, 58, 0, 0, 0) := by decide +kernel
theorem s254_57 {L : Nat} {xs : Nat → Int32} {d x : Nat} {M : qxM} {ls : qxL} {z : Int32} : Rs L xs (d) 254 57 ls [.int z] M x = some (.inl (some (.int z)), M, x) := Rs_ret c254_57 rfl
theorem c255_0 : qx_code 255 0 = some (0, .aload_n 0, 1, 0, 0, 0) := by decide +kernel
theorem s255_0 {L : Nat} {xs : Nat → Int32} {d x : Nat} {M : qxM} {st : List Value} {z : Nat} : Rs L xs (d) 255 0 [some (.ref z)] st M x = Rs L xs (d) 255 1 [some (.ref z)] (.ref z :: st) M x := Rs_next c255_0 rfl
theorem c255_1 : qx_code 255 1 = some (1, .getfield 9, 4, 8, 1, 1546) := by decide +kernel
theorem s255_1 {L : Nat} {xs : Nat → Int32} {d x : Nat} {M : qxM} {st : List Value} {ls : qxL} {t : Nat} (hk : qx_kd t = 18) : Rs L xs (d) 255 1 ls (.ref t :: st) M x = Rs L xs (d) 255 4 ls (.ref (t + 1) :: st) M x := Rs_when (qx_kd_obj (k := 8) (by decide) hk) c255_1 rfl
theorem c255_4 : qx_code 255 4 = some (4, .bipush 35, 6, 0, 0, 0) := by decide +kernel
theorem s255_4 {L : Nat} {xs : Nat → Int32} {d x : Nat} {M : qxM} {st : List Value} {ls : qxL} : Rs L xs (d) 255 4 ls st M x = Rs L xs (d) 255 6 ls (.int (nI 35) :: st) M x := Rs_next c255_4 rfl
theorem c255_6 : qx_code 255 6 = some (6, .iaload, 7, 0, 0, 0) := by decide +kernel
theorem s255_6 {L : Nat} {xs : Nat → Int32} {d x : Nat} {M : qxM} {st : List Value} {ls : qxL} {t : Nat} {j : Int32} (hk : qx_kd t = 0) (hj : qx_ib j (qx_ln t) = true) : Rs L xs (d) 255 6 ls (.int j :: .ref t :: st) M x = Rs L xs (d) 255 7 ls (.int (M.1 t j.toNatClampNeg) :: st) M x := by
  have h1 := qx_kd_row (k := 0) (by decide) hk
  exact Rs_unless (qx_ib_not hj) c255_6 (by unfold qx_act; dsimp only; rw [h1]; rfl)
theorem c255_7 : qx_code 255 7 = some (7, .ifCond .le 7, 10, 14, 0, 0) := by decide +kernel
theorem s255_7 {L : Nat} {xs : Nat → Int32} {d x : Nat} {M : qxM} {st : List Value} {ls : qxL} {z : Int32} : Rs L xs (d) 255 7 ls (.int z :: st) M x = if z ≤ 0 then Rs L xs (d) 255 14 ls st M x else Rs L xs (d) 255 10 ls st M x := Rs_ite c255_7 rfl
theorem c255_10 : qx_code 255 10 = some (10, .iconst 1, 11, 0, 0, 0) := by decide +kernel
theorem s255_10 {L : Nat} {xs : Nat → Int32} {d x : Nat} {M : qxM} {st : List Value} {ls : qxL} : Rs L xs (d) 255 10 ls st M x = Rs L xs (d) 255 11 ls (.int (nI 1) :: st) M x := Rs_next c255_10 rfl
theorem c255_11 : qx_code 255 11 = some (11, .goto 4, 14, 15, 0, 0) := by decide +kernel
theorem s255_11 {L : Nat} {xs : Nat → Int32} {d x : Nat} {M : qxM} {st : List Value} {ls : qxL} : Rs L xs (d) 255 11 ls st M x = Rs L xs (d) 255 15 ls st M x := Rs_next c255_11 rfl
theorem c255_14 : qx_code 255 14 = some (14, .iconst 0, 15, 0, 0, 0) := by decide +kernel
theorem s255_14 {L : Nat} {xs : Nat → Int32} {d x : Nat} {M : qxM} {st : List Value} {ls : qxL} : Rs L xs (d) 255 14 ls st M x = Rs L xs (d) 255 15 ls (.int (nI 0) :: st) M x := Rs_next c255_14 rfl
theorem c255_15 : qx_code 255 15 = some (15, .ireturn, 16, 0, 0, 0) := by decide +kernel
theorem s255_15 {L : Nat} {xs : Nat → Int32} {d x : Nat} {M : qxM} {ls : qxL} {z : Int32} (h01 : z = 0 ∨ z = 1) : Rs L xs (d) 255 15 ls [.int z] M x = some (.inl (some (.int z)), M, x) := Rs_retw h01 c255_15 rfl
