/-! Steps of the law. -/
theorem c394_1990 : qx_code 394 1990 = some (1990, .istore 6, 1992, 0, 0, 0) := by decide +kernel
theorem s394_1990i {L : Nat} {xs : Nat → Int32} {d x : Nat} {M : qxM} {st : List Value} {a0 a1 a2 a3 a4 a6 a7 a8 : Option Value} {z : Int32} {y : Int32} : Rs L xs (d) 394 1990 [a0, a1, a2, a3, a4, some (.int y), a6, a7, a8] (.int z :: st) M x = Rs L xs (d) 394 1992 [a0, a1, a2, a3, a4, some (.int y), some (.int z), a7, a8] st M x := Rs_next c394_1990 rfl
theorem c394_1992 : qx_code 394 1992 = some (1992, .aload_n 2, 1993, 0, 0, 0) := by decide +kernel
theorem s394_1992 {L : Nat} {xs : Nat → Int32} {d x : Nat} {M : qxM} {st : List Value} {a0 a1 a3 a4 a5 a6 a7 a8 : Option Value} {z : Nat} : Rs L xs (d) 394 1992 [a0, a1, some (.ref z), a3, a4, a5, a6, a7, a8] st M x = Rs L xs (d) 394 1993 [a0, a1, some (.ref z), a3, a4, a5, a6, a7, a8] (.ref z :: st) M x := Rs_next c394_1992 rfl
theorem c394_1993 : qx_code 394 1993 = some (1993, .invokevirtual 319, 1996, 292, 1, 2010) := by decide +kernel
theorem s394_1993 {L : Nat} {xs : Nat → Int32} {d x : Nat} {M : qxM} {st : List Value} {ls : qxL} {t : Nat} (hk : qx_kd t = 18) (hs : st.length ≤ 4) : Rs L xs (d + 1) 394 1993 ls (.ref t :: st) M x = (Rs L xs d 292 0 [some (.ref t), none, none, none] [] M 0).bind (qx_kn L xs (d + 1) 394 1993 1996 292 ls st x) := by
  have h1 : qx_act L xs (qx_rt 394) (1993, .invokevirtual 319, 1996, 292, 1, 2010) ls (.ref t :: st) M = if 1 ≤ (.ref t :: st).length ∧ st.length ≤ 4 then some (.inr (.inr (.inr (292, [.ref t], st)))) else none := rfl
  rw [if_pos ⟨by simp [List.length_cons]; try omega, hs⟩] at h1
  have h2 := qx_kd_obj (k := 8) (by decide) hk
  exact Rs_call c394_1993 h1 (by rw [show qx_args 292 [.ref t] = decide (qx_sh t = some (.inl 8)) from rfl]; exact decide_eq_true h2)
theorem c394_1996 : qx_code 394 1996 = some (1996, .istore 7, 1998, 0, 0, 0) := by decide +kernel
theorem s394_1996i {L : Nat} {xs : Nat → Int32} {d x : Nat} {M : qxM} {st : List Value} {a0 a1 a2 a3 a4 a5 a7 a8 : Option Value} {z : Int32} {y : Int32} : Rs L xs (d) 394 1996 [a0, a1, a2, a3, a4, a5, some (.int y), a7, a8] (.int z :: st) M x = Rs L xs (d) 394 1998 [a0, a1, a2, a3, a4, a5, some (.int y), some (.int z), a8] st M x := Rs_next c394_1996 rfl
theorem c394_1998 : qx_code 394 1998 = some (1998, .aload_n 2, 1999, 0, 0, 0) := by decide +kernel
theorem s394_1998 {L : Nat} {xs : Nat → Int32} {d x : Nat} {M : qxM} {st : List Value} {a0 a1 a3 a4 a5 a6 a7 a8 : Option Value} {z : Nat} : Rs L xs (d) 394 1998 [a0, a1, some (.ref z), a3, a4, a5, a6, a7, a8] st M x = Rs L xs (d) 394 1999 [a0, a1, some (.ref z), a3, a4, a5, a6, a7, a8] (.ref z :: st) M x := Rs_next c394_1998 rfl
theorem c394_1999 : qx_code 394 1999 = some (1999, .invokevirtual 218, 2002, 177, 1, 1613) := by decide +kernel
theorem s394_1999 {L : Nat} {xs : Nat → Int32} {d x : Nat} {M : qxM} {st : List Value} {ls : qxL} {t : Nat} (hk : qx_kd t = 18) (hs : st.length ≤ 4) : Rs L xs (d + 1) 394 1999 ls (.ref t :: st) M x = (Rs L xs d 177 0 [some (.ref t)] [] M 0).bind (qx_kn L xs (d + 1) 394 1999 2002 177 ls st x) := by
  have h1 : qx_act L xs (qx_rt 394) (1999, .invokevirtual 218, 2002, 177, 1, 1613) ls (.ref t :: st) M = if 1 ≤ (.ref t :: st).length ∧ st.length ≤ 4 then some (.inr (.inr (.inr (177, [.ref t], st)))) else none := rfl
  rw [if_pos ⟨by simp [List.length_cons]; try omega, hs⟩] at h1
  have h2 := qx_kd_obj (k := 8) (by decide) hk
  exact Rs_call c394_1999 h1 (by rw [show qx_args 177 [.ref t] = decide (qx_sh t = some (.inl 8)) from rfl]; exact decide_eq_true h2)
theorem c394_2002 : qx_code 394 2002 = some (2002, .iload 6, 2004, 0, 0, 0) := by decide +kernel
theorem s394_2002 {L : Nat} {xs : Nat → Int32} {d x : Nat} {M : qxM} {st : List Value} {a0 a1 a2 a3 a4 a5 a7 a8 : Option Value} {z : Int32} : Rs L xs (d) 394 2002 [a0, a1, a2, a3, a4, a5, some (.int z), a7, a8] st M x = Rs L xs (d) 394 2004 [a0, a1, a2, a3, a4, a5, some (.int z), a7, a8] (.int z :: st) M x := Rs_next c394_2002 rfl
theorem c394_2004 : qx_code 394 2004 = some (2004, .if_icmp .eq 5, 2007, 2009, 0, 0) := by decide +kernel
theorem s394_2004 {L : Nat} {xs : Nat → Int32} {d x : Nat} {M : qxM} {st : List Value} {ls : qxL} {z y : Int32} : Rs L xs (d) 394 2004 ls (.int y :: .int z :: st) M x = if z = y then Rs L xs (d) 394 2009 ls st M x else Rs L xs (d) 394 2007 ls st M x := Rs_ite c394_2004 rfl
theorem c394_2009 : qx_code 394 2009 = some (2009, .iload 6, 2011, 0, 0, 0) := by decide +kernel
theorem s394_2009 {L : Nat} {xs : Nat → Int32} {d x : Nat} {M : qxM} {st : List Value} {a0 a1 a2 a3 a4 a5 a7 a8 : Option Value} {z : Int32} : Rs L xs (d) 394 2009 [a0, a1, a2, a3, a4, a5, some (.int z), a7, a8] st M x = Rs L xs (d) 394 2011 [a0, a1, a2, a3, a4, a5, some (.int z), a7, a8] (.int z :: st) M x := Rs_next c394_2009 rfl
theorem c394_2011 : qx_code 394 2011 = some (2011, .ifCond .ne 15, 2014, 2026, 0, 0) := by decide +kernel
theorem s394_2011 {L : Nat} {xs : Nat → Int32} {d x : Nat} {M : qxM} {st : List Value} {ls : qxL} {z : Int32} : Rs L xs (d) 394 2011 ls (.int z :: st) M x = if z = 0 then Rs L xs (d) 394 2014 ls st M x else Rs L xs (d) 394 2026 ls st M x := Rs_ite c394_2011 rfl
theorem c394_2014 : qx_code 394 2014 = some (2014, .aload_n 3, 2015, 0, 0, 0) := by decide +kernel
theorem s394_2014 {L : Nat} {xs : Nat → Int32} {d x : Nat} {M : qxM} {st : List Value} {a0 a1 a2 a4 a5 a6 a7 a8 : Option Value} {z : Nat} : Rs L xs (d) 394 2014 [a0, a1, a2, some (.ref z), a4, a5, a6, a7, a8] st M x = Rs L xs (d) 394 2015 [a0, a1, a2, some (.ref z), a4, a5, a6, a7, a8] (.ref z :: st) M x := Rs_next c394_2014 rfl
theorem c394_2015 : qx_code 394 2015 = some (2015, .iconst 0, 2016, 0, 0, 0) := by decide +kernel
theorem s394_2015 {L : Nat} {xs : Nat → Int32} {d x : Nat} {M : qxM} {st : List Value} {ls : qxL} : Rs L xs (d) 394 2015 ls st M x = Rs L xs (d) 394 2016 ls (.int (nI 0) :: st) M x := Rs_next c394_2015 rfl
theorem c394_2016 : qx_code 394 2016 = some (2016, .laload, 2017, 0, 0, 0) := by decide +kernel
theorem s394_2016 {L : Nat} {xs : Nat → Int32} {d x : Nat} {M : qxM} {st : List Value} {ls : qxL} {t : Nat} {j : Int32} (hk : qx_kd t = 4) (hj : qx_ib j (qx_ln t) = true) : Rs L xs (d) 394 2016 ls (.int j :: .ref t :: st) M x = Rs L xs (d) 394 2017 ls (.long (M.2.1 j.toNatClampNeg) :: st) M x := by
  have h1 := qx_kd_row (k := 4) (by decide) hk
  exact Rs_unless (qx_ib_not hj) c394_2016 (by unfold qx_act; dsimp only; rw [h1]; rfl)
theorem c394_2017 : qx_code 394 2017 = some (2017, .iload 7, 2019, 0, 0, 0) := by decide +kernel
theorem s394_2017 {L : Nat} {xs : Nat → Int32} {d x : Nat} {M : qxM} {st : List Value} {a0 a1 a2 a3 a4 a5 a6 a8 : Option Value} {z : Int32} : Rs L xs (d) 394 2017 [a0, a1, a2, a3, a4, a5, a6, some (.int z), a8] st M x = Rs L xs (d) 394 2019 [a0, a1, a2, a3, a4, a5, a6, some (.int z), a8] (.int z :: st) M x := Rs_next c394_2017 rfl
theorem c394_2019 : qx_code 394 2019 = some (2019, .i2l, 2020, 0, 0, 0) := by decide +kernel
theorem s394_2019 {L : Nat} {xs : Nat → Int32} {d x : Nat} {M : qxM} {st : List Value} {ls : qxL} {z : Int32} : Rs L xs (d) 394 2019 ls (.int z :: st) M x = Rs L xs (d) 394 2020 ls (.long z.toInt64 :: st) M x := Rs_next c394_2019 rfl
theorem c394_2020 : qx_code 394 2020 = some (2020, .lcmp, 2021, 0, 0, 0) := by decide +kernel
theorem s394_2020 {L : Nat} {xs : Nat → Int32} {d x : Nat} {M : qxM} {st : List Value} {ls : qxL} {z y : Int64} : Rs L xs (d) 394 2020 ls (.long y :: .long z :: st) M x = Rs L xs (d) 394 2021 ls (.int (lg_cmp z y) :: st) M x := Rs_next c394_2020 rfl
theorem c394_2021 : qx_code 394 2021 = some (2021, .ifCond .eq 5, 2024, 2026, 0, 0) := by decide +kernel
theorem s394_2021 {L : Nat} {xs : Nat → Int32} {d x : Nat} {M : qxM} {st : List Value} {ls : qxL} {z : Int32} : Rs L xs (d) 394 2021 ls (.int z :: st) M x = if z = 0 then Rs L xs (d) 394 2026 ls st M x else Rs L xs (d) 394 2024 ls st M x := Rs_ite c394_2021 rfl
theorem c394_2026 : qx_code 394 2026 = some (2026, .goto 1720, 2029, 3746, 0, 0) := by decide +kernel
theorem s394_2026 {L : Nat} {xs : Nat → Int32} {d x : Nat} {M : qxM} {st : List Value} {ls : qxL} : Rs L xs (d) 394 2026 ls st M x = Rs L xs (d) 394 3746 ls st M x := Rs_next c394_2026 rfl
theorem c394_2029 : qx_code 394 2029 = some (2029, .aload_n 1, 2030, 0, 0, 0) := by decide +kernel
theorem s394_2029 {L : Nat} {xs : Nat → Int32} {d x : Nat} {M : qxM} {st : List Value} {a0 a2 a3 a4 a5 a6 a7 a8 : Option Value} {z : Nat} : Rs L xs (d) 394 2029 [a0, some (.ref z), a2, a3, a4, a5, a6, a7, a8] st M x = Rs L xs (d) 394 2030 [a0, some (.ref z), a2, a3, a4, a5, a6, a7, a8] (.ref z :: st) M x := Rs_next c394_2029 rfl
theorem c394_2030 : qx_code 394 2030 = some (2030, .aload_n 0, 2031, 0, 0, 0) := by decide +kernel
theorem s394_2030 {L : Nat} {xs : Nat → Int32} {d x : Nat} {M : qxM} {st : List Value} {a1 a2 a3 a4 a5 a6 a7 a8 : Option Value} {z : Nat} : Rs L xs (d) 394 2030 [some (.ref z), a1, a2, a3, a4, a5, a6, a7, a8] st M x = Rs L xs (d) 394 2031 [some (.ref z), a1, a2, a3, a4, a5, a6, a7, a8] (.ref z :: st) M x := Rs_next c394_2030 rfl
theorem c394_2031 : qx_code 394 2031 = some (2031, .iload 5, 2033, 0, 0, 0) := by decide +kernel
theorem s394_2031 {L : Nat} {xs : Nat → Int32} {d x : Nat} {M : qxM} {st : List Value} {a0 a1 a2 a3 a4 a6 a7 a8 : Option Value} {z : Int32} : Rs L xs (d) 394 2031 [a0, a1, a2, a3, a4, some (.int z), a6, a7, a8] st M x = Rs L xs (d) 394 2033 [a0, a1, a2, a3, a4, some (.int z), a6, a7, a8] (.int z :: st) M x := Rs_next c394_2031 rfl
theorem c394_2033 : qx_code 394 2033 = some (2033, .iconst 1, 2034, 0, 0, 0) := by decide +kernel
theorem s394_2033 {L : Nat} {xs : Nat → Int32} {d x : Nat} {M : qxM} {st : List Value} {ls : qxL} : Rs L xs (d) 394 2033 ls st M x = Rs L xs (d) 394 2034 ls (.int (nI 1) :: st) M x := Rs_next c394_2033 rfl
theorem c394_2034 : qx_code 394 2034 = some (2034, .iadd, 2035, 0, 0, 0) := by decide +kernel
theorem s394_2034 {L : Nat} {xs : Nat → Int32} {d x : Nat} {M : qxM} {st : List Value} {ls : qxL} {z y : Int32} : Rs L xs (d) 394 2034 ls (.int y :: .int z :: st) M x = Rs L xs (d) 394 2035 ls (.int (z + y) :: st) M x := Rs_next c394_2034 rfl
theorem c394_2035 : qx_code 394 2035 = some (2035, .iaload, 2036, 0, 0, 0) := by decide +kernel
theorem s394_2035s {L : Nat} {xs : Nat → Int32} {d x : Nat} {M : qxM} {st : List Value} {ls : qxL} {j : Int32} (hj : qx_ib j L = true) : Rs L xs (d) 394 2035 ls (.int j :: .ref 1 :: st) M x = Rs L xs (d) 394 2036 ls (.int (xs j.toNatClampNeg) :: st) M x := Rs_unless (qx_ib_not hj) c394_2035 rfl
theorem c394_2036 : qx_code 394 2036 = some (2036, .aload_n 0, 2037, 0, 0, 0) := by decide +kernel
theorem s394_2036 {L : Nat} {xs : Nat → Int32} {d x : Nat} {M : qxM} {st : List Value} {a1 a2 a3 a4 a5 a6 a7 a8 : Option Value} {z : Nat} : Rs L xs (d) 394 2036 [some (.ref z), a1, a2, a3, a4, a5, a6, a7, a8] st M x = Rs L xs (d) 394 2037 [some (.ref z), a1, a2, a3, a4, a5, a6, a7, a8] (.ref z :: st) M x := Rs_next c394_2036 rfl
theorem c394_2037 : qx_code 394 2037 = some (2037, .iload 5, 2039, 0, 0, 0) := by decide +kernel
theorem s394_2037 {L : Nat} {xs : Nat → Int32} {d x : Nat} {M : qxM} {st : List Value} {a0 a1 a2 a3 a4 a6 a7 a8 : Option Value} {z : Int32} : Rs L xs (d) 394 2037 [a0, a1, a2, a3, a4, some (.int z), a6, a7, a8] st M x = Rs L xs (d) 394 2039 [a0, a1, a2, a3, a4, some (.int z), a6, a7, a8] (.int z :: st) M x := Rs_next c394_2037 rfl
theorem c394_2039 : qx_code 394 2039 = some (2039, .iconst 2, 2040, 0, 0, 0) := by decide +kernel
theorem s394_2039 {L : Nat} {xs : Nat → Int32} {d x : Nat} {M : qxM} {st : List Value} {ls : qxL} : Rs L xs (d) 394 2039 ls st M x = Rs L xs (d) 394 2040 ls (.int (nI 2) :: st) M x := Rs_next c394_2039 rfl
theorem c394_2040 : qx_code 394 2040 = some (2040, .iadd, 2041, 0, 0, 0) := by decide +kernel
theorem s394_2040 {L : Nat} {xs : Nat → Int32} {d x : Nat} {M : qxM} {st : List Value} {ls : qxL} {z y : Int32} : Rs L xs (d) 394 2040 ls (.int y :: .int z :: st) M x = Rs L xs (d) 394 2041 ls (.int (z + y) :: st) M x := Rs_next c394_2040 rfl
theorem c394_2041 : qx_code 394 2041 = some (2041, .iaload, 2042, 0, 0, 0) := by decide +kernel
theorem s394_2041s {L : Nat} {xs : Nat → Int32} {d x : Nat} {M : qxM} {st : List Value} {ls : qxL} {j : Int32} (hj : qx_ib j L = true) : Rs L xs (d) 394 2041 ls (.int j :: .ref 1 :: st) M x = Rs L xs (d) 394 2042 ls (.int (xs j.toNatClampNeg) :: st) M x := Rs_unless (qx_ib_not hj) c394_2041 rfl
theorem c394_2042 : qx_code 394 2042 = some (2042, .aload_n 3, 2043, 0, 0, 0) := by decide +kernel
theorem s394_2042 {L : Nat} {xs : Nat → Int32} {d x : Nat} {M : qxM} {st : List Value} {a0 a1 a2 a4 a5 a6 a7 a8 : Option Value} {z : Nat} : Rs L xs (d) 394 2042 [a0, a1, a2, some (.ref z), a4, a5, a6, a7, a8] st M x = Rs L xs (d) 394 2043 [a0, a1, a2, some (.ref z), a4, a5, a6, a7, a8] (.ref z :: st) M x := Rs_next c394_2042 rfl
theorem c394_2043 : qx_code 394 2043 = some (2043, .invokestatic 320, 2046, 364, 4, 1139) := by decide +kernel
theorem s394_2043 {L : Nat} {xs : Nat → Int32} {d x : Nat} {M : qxM} {st : List Value} {ls : qxL} {z0 : Nat} {z1 : Int32} {z2 : Int32} {z3 : Nat} (hs : st.length ≤ 4) : Rs L xs (d + 1) 394 2043 ls (.ref z3 :: .int z2 :: .int z1 :: .ref z0 :: st) M x = (Rs L xs d 364 0 [some (.ref z0), some (.int z1), some (.int z2), some (.ref z3), none] [] M 0).bind (qx_kn L xs (d + 1) 394 2043 2046 364 ls st x) := by
  have h1 : qx_act L xs (qx_rt 394) (2043, .invokestatic 320, 2046, 364, 4, 1139) ls (.ref z3 :: .int z2 :: .int z1 :: .ref z0 :: st) M = if 4 ≤ (.ref z3 :: .int z2 :: .int z1 :: .ref z0 :: st).length ∧ st.length ≤ 4 then some (.inr (.inr (.inr (364, [.ref z0, .int z1, .int z2, .ref z3], st)))) else none := rfl
  rw [if_pos ⟨by simp [List.length_cons]; try omega, hs⟩] at h1
  exact Rs_call c394_2043 h1 rfl
theorem c394_2046 : qx_code 394 2046 = some (2046, .istore 6, 2048, 0, 0, 0) := by decide +kernel
theorem s394_2046i {L : Nat} {xs : Nat → Int32} {d x : Nat} {M : qxM} {st : List Value} {a0 a1 a2 a3 a4 a6 a7 a8 : Option Value} {z : Int32} {y : Int32} : Rs L xs (d) 394 2046 [a0, a1, a2, a3, a4, some (.int y), a6, a7, a8] (.int z :: st) M x = Rs L xs (d) 394 2048 [a0, a1, a2, a3, a4, some (.int y), some (.int z), a7, a8] st M x := Rs_next c394_2046 rfl
theorem c394_2048 : qx_code 394 2048 = some (2048, .aload_n 2, 2049, 0, 0, 0) := by decide +kernel
theorem s394_2048 {L : Nat} {xs : Nat → Int32} {d x : Nat} {M : qxM} {st : List Value} {a0 a1 a3 a4 a5 a6 a7 a8 : Option Value} {z : Nat} : Rs L xs (d) 394 2048 [a0, a1, some (.ref z), a3, a4, a5, a6, a7, a8] st M x = Rs L xs (d) 394 2049 [a0, a1, some (.ref z), a3, a4, a5, a6, a7, a8] (.ref z :: st) M x := Rs_next c394_2048 rfl
theorem c394_2049 : qx_code 394 2049 = some (2049, .aload_n 0, 2050, 0, 0, 0) := by decide +kernel
theorem s394_2049 {L : Nat} {xs : Nat → Int32} {d x : Nat} {M : qxM} {st : List Value} {a1 a2 a3 a4 a5 a6 a7 a8 : Option Value} {z : Nat} : Rs L xs (d) 394 2049 [some (.ref z), a1, a2, a3, a4, a5, a6, a7, a8] st M x = Rs L xs (d) 394 2050 [some (.ref z), a1, a2, a3, a4, a5, a6, a7, a8] (.ref z :: st) M x := Rs_next c394_2049 rfl
theorem c394_2050 : qx_code 394 2050 = some (2050, .iload 5, 2052, 0, 0, 0) := by decide +kernel
theorem s394_2050 {L : Nat} {xs : Nat → Int32} {d x : Nat} {M : qxM} {st : List Value} {a0 a1 a2 a3 a4 a6 a7 a8 : Option Value} {z : Int32} : Rs L xs (d) 394 2050 [a0, a1, a2, a3, a4, some (.int z), a6, a7, a8] st M x = Rs L xs (d) 394 2052 [a0, a1, a2, a3, a4, some (.int z), a6, a7, a8] (.int z :: st) M x := Rs_next c394_2050 rfl
theorem c394_2052 : qx_code 394 2052 = some (2052, .iconst 1, 2053, 0, 0, 0) := by decide +kernel
theorem s394_2052 {L : Nat} {xs : Nat → Int32} {d x : Nat} {M : qxM} {st : List Value} {ls : qxL} : Rs L xs (d) 394 2052 ls st M x = Rs L xs (d) 394 2053 ls (.int (nI 1) :: st) M x := Rs_next c394_2052 rfl
theorem c394_2053 : qx_code 394 2053 = some (2053, .iadd, 2054, 0, 0, 0) := by decide +kernel
theorem s394_2053 {L : Nat} {xs : Nat → Int32} {d x : Nat} {M : qxM} {st : List Value} {ls : qxL} {z y : Int32} : Rs L xs (d) 394 2053 ls (.int y :: .int z :: st) M x = Rs L xs (d) 394 2054 ls (.int (z + y) :: st) M x := Rs_next c394_2053 rfl
theorem c394_2054 : qx_code 394 2054 = some (2054, .iaload, 2055, 0, 0, 0) := by decide +kernel
theorem s394_2054s {L : Nat} {xs : Nat → Int32} {d x : Nat} {M : qxM} {st : List Value} {ls : qxL} {j : Int32} (hj : qx_ib j L = true) : Rs L xs (d) 394 2054 ls (.int j :: .ref 1 :: st) M x = Rs L xs (d) 394 2055 ls (.int (xs j.toNatClampNeg) :: st) M x := Rs_unless (qx_ib_not hj) c394_2054 rfl
theorem c394_2055 : qx_code 394 2055 = some (2055, .aload_n 0, 2056, 0, 0, 0) := by decide +kernel
theorem s394_2055 {L : Nat} {xs : Nat → Int32} {d x : Nat} {M : qxM} {st : List Value} {a1 a2 a3 a4 a5 a6 a7 a8 : Option Value} {z : Nat} : Rs L xs (d) 394 2055 [some (.ref z), a1, a2, a3, a4, a5, a6, a7, a8] st M x = Rs L xs (d) 394 2056 [some (.ref z), a1, a2, a3, a4, a5, a6, a7, a8] (.ref z :: st) M x := Rs_next c394_2055 rfl
theorem c394_2056 : qx_code 394 2056 = some (2056, .iload 5, 2058, 0, 0, 0) := by decide +kernel
theorem s394_2056 {L : Nat} {xs : Nat → Int32} {d x : Nat} {M : qxM} {st : List Value} {a0 a1 a2 a3 a4 a6 a7 a8 : Option Value} {z : Int32} : Rs L xs (d) 394 2056 [a0, a1, a2, a3, a4, some (.int z), a6, a7, a8] st M x = Rs L xs (d) 394 2058 [a0, a1, a2, a3, a4, some (.int z), a6, a7, a8] (.int z :: st) M x := Rs_next c394_2056 rfl
theorem c394_2058 : qx_code 394 2058 = some (2058, .iconst 2, 2059, 0, 0, 0) := by decide +kernel
theorem s394_2058 {L : Nat} {xs : Nat → Int32} {d x : Nat} {M : qxM} {st : List Value} {ls : qxL} : Rs L xs (d) 394 2058 ls st M x = Rs L xs (d) 394 2059 ls (.int (nI 2) :: st) M x := Rs_next c394_2058 rfl
theorem c394_2059 : qx_code 394 2059 = some (2059, .iadd, 2060, 0, 0, 0) := by decide +kernel
theorem s394_2059 {L : Nat} {xs : Nat → Int32} {d x : Nat} {M : qxM} {st : List Value} {ls : qxL} {z y : Int32} : Rs L xs (d) 394 2059 ls (.int y :: .int z :: st) M x = Rs L xs (d) 394 2060 ls (.int (z + y) :: st) M x := Rs_next c394_2059 rfl
theorem c394_2060 : qx_code 394 2060 = some (2060, .iaload, 2061, 0, 0, 0) := by decide +kernel
theorem s394_2060s {L : Nat} {xs : Nat → Int32} {d x : Nat} {M : qxM} {st : List Value} {ls : qxL} {j : Int32} (hj : qx_ib j L = true) : Rs L xs (d) 394 2060 ls (.int j :: .ref 1 :: st) M x = Rs L xs (d) 394 2061 ls (.int (xs j.toNatClampNeg) :: st) M x := Rs_unless (qx_ib_not hj) c394_2060 rfl
theorem c394_2061 : qx_code 394 2061 = some (2061, .invokevirtual 322, 2064, 294, 3, 2014) := by decide +kernel
theorem s394_2061 {L : Nat} {xs : Nat → Int32} {d x : Nat} {M : qxM} {st : List Value} {ls : qxL} {t : Nat} {z0 : Int32} {z1 : Int32} (hk : qx_kd t = 18) (hs : st.length ≤ 4) : Rs L xs (d + 1) 394 2061 ls (.int z1 :: .int z0 :: .ref t :: st) M x = (Rs L xs d 294 0 [some (.ref t), some (.int z0), some (.int z1), none] [] M 0).bind (qx_kn L xs (d + 1) 394 2061 2064 294 ls st x) := by
  have h1 : qx_act L xs (qx_rt 394) (2061, .invokevirtual 322, 2064, 294, 3, 2014) ls (.int z1 :: .int z0 :: .ref t :: st) M = if 3 ≤ (.int z1 :: .int z0 :: .ref t :: st).length ∧ st.length ≤ 4 then some (.inr (.inr (.inr (294, [.ref t, .int z0, .int z1], st)))) else none := rfl
  rw [if_pos ⟨by simp [List.length_cons]; try omega, hs⟩] at h1
  have h2 := qx_kd_obj (k := 8) (by decide) hk
  exact Rs_call c394_2061 h1 (by rw [show qx_args 294 [.ref t, .int z0, .int z1] = decide (qx_sh t = some (.inl 8)) from rfl]; exact decide_eq_true h2)
theorem c394_2064 : qx_code 394 2064 = some (2064, .istore 7, 2066, 0, 0, 0) := by decide +kernel
theorem s394_2064i {L : Nat} {xs : Nat → Int32} {d x : Nat} {M : qxM} {st : List Value} {a0 a1 a2 a3 a4 a5 a7 a8 : Option Value} {z : Int32} {y : Int32} : Rs L xs (d) 394 2064 [a0, a1, a2, a3, a4, a5, some (.int y), a7, a8] (.int z :: st) M x = Rs L xs (d) 394 2066 [a0, a1, a2, a3, a4, a5, some (.int y), some (.int z), a8] st M x := Rs_next c394_2064 rfl
theorem c394_2066 : qx_code 394 2066 = some (2066, .aload_n 2, 2067, 0, 0, 0) := by decide +kernel
theorem s394_2066 {L : Nat} {xs : Nat → Int32} {d x : Nat} {M : qxM} {st : List Value} {a0 a1 a3 a4 a5 a6 a7 a8 : Option Value} {z : Nat} : Rs L xs (d) 394 2066 [a0, a1, some (.ref z), a3, a4, a5, a6, a7, a8] st M x = Rs L xs (d) 394 2067 [a0, a1, some (.ref z), a3, a4, a5, a6, a7, a8] (.ref z :: st) M x := Rs_next c394_2066 rfl
theorem c394_2067 : qx_code 394 2067 = some (2067, .invokevirtual 218, 2070, 177, 1, 1613) := by decide +kernel
theorem s394_2067 {L : Nat} {xs : Nat → Int32} {d x : Nat} {M : qxM} {st : List Value} {ls : qxL} {t : Nat} (hk : qx_kd t = 18) (hs : st.length ≤ 4) : Rs L xs (d + 1) 394 2067 ls (.ref t :: st) M x = (Rs L xs d 177 0 [some (.ref t)] [] M 0).bind (qx_kn L xs (d + 1) 394 2067 2070 177 ls st x) := by
  have h1 : qx_act L xs (qx_rt 394) (2067, .invokevirtual 218, 2070, 177, 1, 1613) ls (.ref t :: st) M = if 1 ≤ (.ref t :: st).length ∧ st.length ≤ 4 then some (.inr (.inr (.inr (177, [.ref t], st)))) else none := rfl
  rw [if_pos ⟨by simp [List.length_cons]; try omega, hs⟩] at h1
  have h2 := qx_kd_obj (k := 8) (by decide) hk
  exact Rs_call c394_2067 h1 (by rw [show qx_args 177 [.ref t] = decide (qx_sh t = some (.inl 8)) from rfl]; exact decide_eq_true h2)
theorem c394_2070 : qx_code 394 2070 = some (2070, .iload 6, 2072, 0, 0, 0) := by decide +kernel
theorem s394_2070 {L : Nat} {xs : Nat → Int32} {d x : Nat} {M : qxM} {st : List Value} {a0 a1 a2 a3 a4 a5 a7 a8 : Option Value} {z : Int32} : Rs L xs (d) 394 2070 [a0, a1, a2, a3, a4, a5, some (.int z), a7, a8] st M x = Rs L xs (d) 394 2072 [a0, a1, a2, a3, a4, a5, some (.int z), a7, a8] (.int z :: st) M x := Rs_next c394_2070 rfl
theorem c394_2072 : qx_code 394 2072 = some (2072, .if_icmp .eq 5, 2075, 2077, 0, 0) := by decide +kernel
theorem s394_2072 {L : Nat} {xs : Nat → Int32} {d x : Nat} {M : qxM} {st : List Value} {ls : qxL} {z y : Int32} : Rs L xs (d) 394 2072 ls (.int y :: .int z :: st) M x = if z = y then Rs L xs (d) 394 2077 ls st M x else Rs L xs (d) 394 2075 ls st M x := Rs_ite c394_2072 rfl
theorem c394_2077 : qx_code 394 2077 = some (2077, .iload 6, 2079, 0, 0, 0) := by decide +kernel
theorem s394_2077 {L : Nat} {xs : Nat → Int32} {d x : Nat} {M : qxM} {st : List Value} {a0 a1 a2 a3 a4 a5 a7 a8 : Option Value} {z : Int32} : Rs L xs (d) 394 2077 [a0, a1, a2, a3, a4, a5, some (.int z), a7, a8] st M x = Rs L xs (d) 394 2079 [a0, a1, a2, a3, a4, a5, some (.int z), a7, a8] (.int z :: st) M x := Rs_next c394_2077 rfl
theorem c394_2079 : qx_code 394 2079 = some (2079, .ifCond .ne 22, 2082, 2101, 0, 0) := by decide +kernel
theorem s394_2079 {L : Nat} {xs : Nat → Int32} {d x : Nat} {M : qxM} {st : List Value} {ls : qxL} {z : Int32} : Rs L xs (d) 394 2079 ls (.int z :: st) M x = if z = 0 then Rs L xs (d) 394 2082 ls st M x else Rs L xs (d) 394 2101 ls st M x := Rs_ite c394_2079 rfl
theorem c394_2082 : qx_code 394 2082 = some (2082, .aload_n 3, 2083, 0, 0, 0) := by decide +kernel
theorem s394_2082 {L : Nat} {xs : Nat → Int32} {d x : Nat} {M : qxM} {st : List Value} {a0 a1 a2 a4 a5 a6 a7 a8 : Option Value} {z : Nat} : Rs L xs (d) 394 2082 [a0, a1, a2, some (.ref z), a4, a5, a6, a7, a8] st M x = Rs L xs (d) 394 2083 [a0, a1, a2, some (.ref z), a4, a5, a6, a7, a8] (.ref z :: st) M x := Rs_next c394_2082 rfl
theorem c394_2083 : qx_code 394 2083 = some (2083, .iconst 0, 2084, 0, 0, 0) := by decide +kernel
theorem s394_2083 {L : Nat} {xs : Nat → Int32} {d x : Nat} {M : qxM} {st : List Value} {ls : qxL} : Rs L xs (d) 394 2083 ls st M x = Rs L xs (d) 394 2084 ls (.int (nI 0) :: st) M x := Rs_next c394_2083 rfl
theorem c394_2084 : qx_code 394 2084 = some (2084, .laload, 2085, 0, 0, 0) := by decide +kernel
theorem s394_2084 {L : Nat} {xs : Nat → Int32} {d x : Nat} {M : qxM} {st : List Value} {ls : qxL} {t : Nat} {j : Int32} (hk : qx_kd t = 4) (hj : qx_ib j (qx_ln t) = true) : Rs L xs (d) 394 2084 ls (.int j :: .ref t :: st) M x = Rs L xs (d) 394 2085 ls (.long (M.2.1 j.toNatClampNeg) :: st) M x := by
  have h1 := qx_kd_row (k := 4) (by decide) hk
  exact Rs_unless (qx_ib_not hj) c394_2084 (by unfold qx_act; dsimp only; rw [h1]; rfl)
theorem c394_2085 : qx_code 394 2085 = some (2085, .iload 7, 2087, 0, 0, 0) := by decide +kernel
theorem s394_2085 {L : Nat} {xs : Nat → Int32} {d x : Nat} {M : qxM} {st : List Value} {a0 a1 a2 a3 a4 a5 a6 a8 : Option Value} {z : Int32} : Rs L xs (d) 394 2085 [a0, a1, a2, a3, a4, a5, a6, some (.int z), a8] st M x = Rs L xs (d) 394 2087 [a0, a1, a2, a3, a4, a5, a6, some (.int z), a8] (.int z :: st) M x := Rs_next c394_2085 rfl
theorem c394_2087 : qx_code 394 2087 = some (2087, .ifCond .eq 7, 2090, 2094, 0, 0) := by decide +kernel
theorem s394_2087 {L : Nat} {xs : Nat → Int32} {d x : Nat} {M : qxM} {st : List Value} {ls : qxL} {z : Int32} : Rs L xs (d) 394 2087 ls (.int z :: st) M x = if z = 0 then Rs L xs (d) 394 2094 ls st M x else Rs L xs (d) 394 2090 ls st M x := Rs_ite c394_2087 rfl
theorem c394_2090 : qx_code 394 2090 = some (2090, .lconst 1, 2091, 0, 0, 0) := by decide +kernel
theorem s394_2090 {L : Nat} {xs : Nat → Int32} {d x : Nat} {M : qxM} {st : List Value} {ls : qxL} : Rs L xs (d) 394 2090 ls st M x = Rs L xs (d) 394 2091 ls (.long (Int64.ofNat 1) :: st) M x := Rs_next c394_2090 rfl
theorem c394_2091 : qx_code 394 2091 = some (2091, .goto 4, 2094, 2095, 0, 0) := by decide +kernel
theorem s394_2091 {L : Nat} {xs : Nat → Int32} {d x : Nat} {M : qxM} {st : List Value} {ls : qxL} : Rs L xs (d) 394 2091 ls st M x = Rs L xs (d) 394 2095 ls st M x := Rs_next c394_2091 rfl
theorem c394_2094 : qx_code 394 2094 = some (2094, .lconst 0, 2095, 0, 0, 0) := by decide +kernel
theorem s394_2094 {L : Nat} {xs : Nat → Int32} {d x : Nat} {M : qxM} {st : List Value} {ls : qxL} : Rs L xs (d) 394 2094 ls st M x = Rs L xs (d) 394 2095 ls (.long (Int64.ofNat 0) :: st) M x := Rs_next c394_2094 rfl
theorem c394_2095 : qx_code 394 2095 = some (2095, .lcmp, 2096, 0, 0, 0) := by decide +kernel
theorem s394_2095 {L : Nat} {xs : Nat → Int32} {d x : Nat} {M : qxM} {st : List Value} {ls : qxL} {z y : Int64} : Rs L xs (d) 394 2095 ls (.long y :: .long z :: st) M x = Rs L xs (d) 394 2096 ls (.int (lg_cmp z y) :: st) M x := Rs_next c394_2095 rfl
theorem c394_2096 : qx_code 394 2096 = some (2096, .ifCond .eq 5, 2099, 2101, 0, 0) := by decide +kernel
theorem s394_2096 {L : Nat} {xs : Nat → Int32} {d x : Nat} {M : qxM} {st : List Value} {ls : qxL} {z : Int32} : Rs L xs (d) 394 2096 ls (.int z :: st) M x = if z = 0 then Rs L xs (d) 394 2101 ls st M x else Rs L xs (d) 394 2099 ls st M x := Rs_ite c394_2096 rfl
theorem c394_2101 : qx_code 394 2101 = some (2101, .goto 1645, 2104, 3746, 0, 0) := by decide +kernel
theorem s394_2101 {L : Nat} {xs : Nat → Int32} {d x : Nat} {M : qxM} {st : List Value} {ls : qxL} : Rs L xs (d) 394 2101 ls st M x = Rs L xs (d) 394 3746 ls st M x := Rs_next c394_2101 rfl
theorem c394_2104 : qx_code 394 2104 = some (2104, .aload_n 1, 2105, 0, 0, 0) := by decide +kernel
theorem s394_2104 {L : Nat} {xs : Nat → Int32} {d x : Nat} {M : qxM} {st : List Value} {a0 a2 a3 a4 a5 a6 a7 a8 : Option Value} {z : Nat} : Rs L xs (d) 394 2104 [a0, some (.ref z), a2, a3, a4, a5, a6, a7, a8] st M x = Rs L xs (d) 394 2105 [a0, some (.ref z), a2, a3, a4, a5, a6, a7, a8] (.ref z :: st) M x := Rs_next c394_2104 rfl
theorem c394_2105 : qx_code 394 2105 = some (2105, .aload_n 0, 2106, 0, 0, 0) := by decide +kernel
theorem s394_2105 {L : Nat} {xs : Nat → Int32} {d x : Nat} {M : qxM} {st : List Value} {a1 a2 a3 a4 a5 a6 a7 a8 : Option Value} {z : Nat} : Rs L xs (d) 394 2105 [some (.ref z), a1, a2, a3, a4, a5, a6, a7, a8] st M x = Rs L xs (d) 394 2106 [some (.ref z), a1, a2, a3, a4, a5, a6, a7, a8] (.ref z :: st) M x := Rs_next c394_2105 rfl
theorem c394_2106 : qx_code 394 2106 = some (2106, .iload 5, 2108, 0, 0, 0) := by decide +kernel
theorem s394_2106 {L : Nat} {xs : Nat → Int32} {d x : Nat} {M : qxM} {st : List Value} {a0 a1 a2 a3 a4 a6 a7 a8 : Option Value} {z : Int32} : Rs L xs (d) 394 2106 [a0, a1, a2, a3, a4, some (.int z), a6, a7, a8] st M x = Rs L xs (d) 394 2108 [a0, a1, a2, a3, a4, some (.int z), a6, a7, a8] (.int z :: st) M x := Rs_next c394_2106 rfl
theorem c394_2108 : qx_code 394 2108 = some (2108, .iconst 1, 2109, 0, 0, 0) := by decide +kernel
theorem s394_2108 {L : Nat} {xs : Nat → Int32} {d x : Nat} {M : qxM} {st : List Value} {ls : qxL} : Rs L xs (d) 394 2108 ls st M x = Rs L xs (d) 394 2109 ls (.int (nI 1) :: st) M x := Rs_next c394_2108 rfl
theorem c394_2109 : qx_code 394 2109 = some (2109, .iadd, 2110, 0, 0, 0) := by decide +kernel
theorem s394_2109 {L : Nat} {xs : Nat → Int32} {d x : Nat} {M : qxM} {st : List Value} {ls : qxL} {z y : Int32} : Rs L xs (d) 394 2109 ls (.int y :: .int z :: st) M x = Rs L xs (d) 394 2110 ls (.int (z + y) :: st) M x := Rs_next c394_2109 rfl
theorem c394_2110 : qx_code 394 2110 = some (2110, .iaload, 2111, 0, 0, 0) := by decide +kernel
theorem s394_2110s {L : Nat} {xs : Nat → Int32} {d x : Nat} {M : qxM} {st : List Value} {ls : qxL} {j : Int32} (hj : qx_ib j L = true) : Rs L xs (d) 394 2110 ls (.int j :: .ref 1 :: st) M x = Rs L xs (d) 394 2111 ls (.int (xs j.toNatClampNeg) :: st) M x := Rs_unless (qx_ib_not hj) c394_2110 rfl
theorem c394_2111 : qx_code 394 2111 = some (2111, .aload_n 0, 2112, 0, 0, 0) := by decide +kernel
theorem s394_2111 {L : Nat} {xs : Nat → Int32} {d x : Nat} {M : qxM} {st : List Value} {a1 a2 a3 a4 a5 a6 a7 a8 : Option Value} {z : Nat} : Rs L xs (d) 394 2111 [some (.ref z), a1, a2, a3, a4, a5, a6, a7, a8] st M x = Rs L xs (d) 394 2112 [some (.ref z), a1, a2, a3, a4, a5, a6, a7, a8] (.ref z :: st) M x := Rs_next c394_2111 rfl
theorem c394_2112 : qx_code 394 2112 = some (2112, .iload 5, 2114, 0, 0, 0) := by decide +kernel
theorem s394_2112 {L : Nat} {xs : Nat → Int32} {d x : Nat} {M : qxM} {st : List Value} {a0 a1 a2 a3 a4 a6 a7 a8 : Option Value} {z : Int32} : Rs L xs (d) 394 2112 [a0, a1, a2, a3, a4, some (.int z), a6, a7, a8] st M x = Rs L xs (d) 394 2114 [a0, a1, a2, a3, a4, some (.int z), a6, a7, a8] (.int z :: st) M x := Rs_next c394_2112 rfl
theorem c394_2114 : qx_code 394 2114 = some (2114, .iconst 2, 2115, 0, 0, 0) := by decide +kernel
theorem s394_2114 {L : Nat} {xs : Nat → Int32} {d x : Nat} {M : qxM} {st : List Value} {ls : qxL} : Rs L xs (d) 394 2114 ls st M x = Rs L xs (d) 394 2115 ls (.int (nI 2) :: st) M x := Rs_next c394_2114 rfl
theorem c394_2115 : qx_code 394 2115 = some (2115, .iadd, 2116, 0, 0, 0) := by decide +kernel
theorem s394_2115 {L : Nat} {xs : Nat → Int32} {d x : Nat} {M : qxM} {st : List Value} {ls : qxL} {z y : Int32} : Rs L xs (d) 394 2115 ls (.int y :: .int z :: st) M x = Rs L xs (d) 394 2116 ls (.int (z + y) :: st) M x := Rs_next c394_2115 rfl
theorem c394_2116 : qx_code 394 2116 = some (2116, .iaload, 2117, 0, 0, 0) := by decide +kernel
theorem s394_2116s {L : Nat} {xs : Nat → Int32} {d x : Nat} {M : qxM} {st : List Value} {ls : qxL} {j : Int32} (hj : qx_ib j L = true) : Rs L xs (d) 394 2116 ls (.int j :: .ref 1 :: st) M x = Rs L xs (d) 394 2117 ls (.int (xs j.toNatClampNeg) :: st) M x := Rs_unless (qx_ib_not hj) c394_2116 rfl
theorem c394_2117 : qx_code 394 2117 = some (2117, .aload_n 3, 2118, 0, 0, 0) := by decide +kernel
theorem s394_2117 {L : Nat} {xs : Nat → Int32} {d x : Nat} {M : qxM} {st : List Value} {a0 a1 a2 a4 a5 a6 a7 a8 : Option Value} {z : Nat} : Rs L xs (d) 394 2117 [a0, a1, a2, some (.ref z), a4, a5, a6, a7, a8] st M x = Rs L xs (d) 394 2118 [a0, a1, a2, some (.ref z), a4, a5, a6, a7, a8] (.ref z :: st) M x := Rs_next c394_2117 rfl
theorem c394_2118 : qx_code 394 2118 = some (2118, .invokestatic 323, 2121, 365, 4, 1150) := by decide +kernel
theorem s394_2118 {L : Nat} {xs : Nat → Int32} {d x : Nat} {M : qxM} {st : List Value} {ls : qxL} {z0 : Nat} {z1 : Int32} {z2 : Int32} {z3 : Nat} (hs : st.length ≤ 4) : Rs L xs (d + 1) 394 2118 ls (.ref z3 :: .int z2 :: .int z1 :: .ref z0 :: st) M x = (Rs L xs d 365 0 [some (.ref z0), some (.int z1), some (.int z2), some (.ref z3), none] [] M 0).bind (qx_kn L xs (d + 1) 394 2118 2121 365 ls st x) := by
  have h1 : qx_act L xs (qx_rt 394) (2118, .invokestatic 323, 2121, 365, 4, 1150) ls (.ref z3 :: .int z2 :: .int z1 :: .ref z0 :: st) M = if 4 ≤ (.ref z3 :: .int z2 :: .int z1 :: .ref z0 :: st).length ∧ st.length ≤ 4 then some (.inr (.inr (.inr (365, [.ref z0, .int z1, .int z2, .ref z3], st)))) else none := rfl
  rw [if_pos ⟨by simp [List.length_cons]; try omega, hs⟩] at h1
  exact Rs_call c394_2118 h1 rfl
theorem c394_2121 : qx_code 394 2121 = some (2121, .istore 6, 2123, 0, 0, 0) := by decide +kernel
theorem s394_2121i {L : Nat} {xs : Nat → Int32} {d x : Nat} {M : qxM} {st : List Value} {a0 a1 a2 a3 a4 a6 a7 a8 : Option Value} {z : Int32} {y : Int32} : Rs L xs (d) 394 2121 [a0, a1, a2, a3, a4, some (.int y), a6, a7, a8] (.int z :: st) M x = Rs L xs (d) 394 2123 [a0, a1, a2, a3, a4, some (.int y), some (.int z), a7, a8] st M x := Rs_next c394_2121 rfl
theorem c394_2123 : qx_code 394 2123 = some (2123, .aload_n 2, 2124, 0, 0, 0) := by decide +kernel
theorem s394_2123 {L : Nat} {xs : Nat → Int32} {d x : Nat} {M : qxM} {st : List Value} {a0 a1 a3 a4 a5 a6 a7 a8 : Option Value} {z : Nat} : Rs L xs (d) 394 2123 [a0, a1, some (.ref z), a3, a4, a5, a6, a7, a8] st M x = Rs L xs (d) 394 2124 [a0, a1, some (.ref z), a3, a4, a5, a6, a7, a8] (.ref z :: st) M x := Rs_next c394_2123 rfl
theorem c394_2124 : qx_code 394 2124 = some (2124, .aload_n 0, 2125, 0, 0, 0) := by decide +kernel
theorem s394_2124 {L : Nat} {xs : Nat → Int32} {d x : Nat} {M : qxM} {st : List Value} {a1 a2 a3 a4 a5 a6 a7 a8 : Option Value} {z : Nat} : Rs L xs (d) 394 2124 [some (.ref z), a1, a2, a3, a4, a5, a6, a7, a8] st M x = Rs L xs (d) 394 2125 [some (.ref z), a1, a2, a3, a4, a5, a6, a7, a8] (.ref z :: st) M x := Rs_next c394_2124 rfl
theorem c394_2125 : qx_code 394 2125 = some (2125, .iload 5, 2127, 0, 0, 0) := by decide +kernel
theorem s394_2125 {L : Nat} {xs : Nat → Int32} {d x : Nat} {M : qxM} {st : List Value} {a0 a1 a2 a3 a4 a6 a7 a8 : Option Value} {z : Int32} : Rs L xs (d) 394 2125 [a0, a1, a2, a3, a4, some (.int z), a6, a7, a8] st M x = Rs L xs (d) 394 2127 [a0, a1, a2, a3, a4, some (.int z), a6, a7, a8] (.int z :: st) M x := Rs_next c394_2125 rfl
theorem c394_2127 : qx_code 394 2127 = some (2127, .iconst 1, 2128, 0, 0, 0) := by decide +kernel
theorem s394_2127 {L : Nat} {xs : Nat → Int32} {d x : Nat} {M : qxM} {st : List Value} {ls : qxL} : Rs L xs (d) 394 2127 ls st M x = Rs L xs (d) 394 2128 ls (.int (nI 1) :: st) M x := Rs_next c394_2127 rfl
theorem c394_2128 : qx_code 394 2128 = some (2128, .iadd, 2129, 0, 0, 0) := by decide +kernel
theorem s394_2128 {L : Nat} {xs : Nat → Int32} {d x : Nat} {M : qxM} {st : List Value} {ls : qxL} {z y : Int32} : Rs L xs (d) 394 2128 ls (.int y :: .int z :: st) M x = Rs L xs (d) 394 2129 ls (.int (z + y) :: st) M x := Rs_next c394_2128 rfl
theorem c394_2129 : qx_code 394 2129 = some (2129, .iaload, 2130, 0, 0, 0) := by decide +kernel
theorem s394_2129s {L : Nat} {xs : Nat → Int32} {d x : Nat} {M : qxM} {st : List Value} {ls : qxL} {j : Int32} (hj : qx_ib j L = true) : Rs L xs (d) 394 2129 ls (.int j :: .ref 1 :: st) M x = Rs L xs (d) 394 2130 ls (.int (xs j.toNatClampNeg) :: st) M x := Rs_unless (qx_ib_not hj) c394_2129 rfl
theorem c394_2130 : qx_code 394 2130 = some (2130, .aload_n 0, 2131, 0, 0, 0) := by decide +kernel
theorem s394_2130 {L : Nat} {xs : Nat → Int32} {d x : Nat} {M : qxM} {st : List Value} {a1 a2 a3 a4 a5 a6 a7 a8 : Option Value} {z : Nat} : Rs L xs (d) 394 2130 [some (.ref z), a1, a2, a3, a4, a5, a6, a7, a8] st M x = Rs L xs (d) 394 2131 [some (.ref z), a1, a2, a3, a4, a5, a6, a7, a8] (.ref z :: st) M x := Rs_next c394_2130 rfl
theorem c394_2131 : qx_code 394 2131 = some (2131, .iload 5, 2133, 0, 0, 0) := by decide +kernel
theorem s394_2131 {L : Nat} {xs : Nat → Int32} {d x : Nat} {M : qxM} {st : List Value} {a0 a1 a2 a3 a4 a6 a7 a8 : Option Value} {z : Int32} : Rs L xs (d) 394 2131 [a0, a1, a2, a3, a4, some (.int z), a6, a7, a8] st M x = Rs L xs (d) 394 2133 [a0, a1, a2, a3, a4, some (.int z), a6, a7, a8] (.int z :: st) M x := Rs_next c394_2131 rfl
theorem c394_2133 : qx_code 394 2133 = some (2133, .iconst 2, 2134, 0, 0, 0) := by decide +kernel
theorem s394_2133 {L : Nat} {xs : Nat → Int32} {d x : Nat} {M : qxM} {st : List Value} {ls : qxL} : Rs L xs (d) 394 2133 ls st M x = Rs L xs (d) 394 2134 ls (.int (nI 2) :: st) M x := Rs_next c394_2133 rfl
theorem c394_2134 : qx_code 394 2134 = some (2134, .iadd, 2135, 0, 0, 0) := by decide +kernel
theorem s394_2134 {L : Nat} {xs : Nat → Int32} {d x : Nat} {M : qxM} {st : List Value} {ls : qxL} {z y : Int32} : Rs L xs (d) 394 2134 ls (.int y :: .int z :: st) M x = Rs L xs (d) 394 2135 ls (.int (z + y) :: st) M x := Rs_next c394_2134 rfl
theorem c394_2135 : qx_code 394 2135 = some (2135, .iaload, 2136, 0, 0, 0) := by decide +kernel
theorem s394_2135s {L : Nat} {xs : Nat → Int32} {d x : Nat} {M : qxM} {st : List Value} {ls : qxL} {j : Int32} (hj : qx_ib j L = true) : Rs L xs (d) 394 2135 ls (.int j :: .ref 1 :: st) M x = Rs L xs (d) 394 2136 ls (.int (xs j.toNatClampNeg) :: st) M x := Rs_unless (qx_ib_not hj) c394_2135 rfl
theorem c394_2136 : qx_code 394 2136 = some (2136, .invokevirtual 325, 2139, 296, 3, 2022) := by decide +kernel
theorem s394_2136 {L : Nat} {xs : Nat → Int32} {d x : Nat} {M : qxM} {st : List Value} {ls : qxL} {t : Nat} {z0 : Int32} {z1 : Int32} (hk : qx_kd t = 18) (hs : st.length ≤ 4) : Rs L xs (d + 1) 394 2136 ls (.int z1 :: .int z0 :: .ref t :: st) M x = (Rs L xs d 296 0 [some (.ref t), some (.int z0), some (.int z1)] [] M 0).bind (qx_kn L xs (d + 1) 394 2136 2139 296 ls st x) := by
  have h1 : qx_act L xs (qx_rt 394) (2136, .invokevirtual 325, 2139, 296, 3, 2022) ls (.int z1 :: .int z0 :: .ref t :: st) M = if 3 ≤ (.int z1 :: .int z0 :: .ref t :: st).length ∧ st.length ≤ 4 then some (.inr (.inr (.inr (296, [.ref t, .int z0, .int z1], st)))) else none := rfl
  rw [if_pos ⟨by simp [List.length_cons]; try omega, hs⟩] at h1
  have h2 := qx_kd_obj (k := 8) (by decide) hk
  exact Rs_call c394_2136 h1 (by rw [show qx_args 296 [.ref t, .int z0, .int z1] = decide (qx_sh t = some (.inl 8)) from rfl]; exact decide_eq_true h2)
theorem c394_2139 : qx_code 394 2139 = some (2139, .istore 7, 2141, 0, 0, 0) := by decide +kernel
theorem s394_2139i {L : Nat} {xs : Nat → Int32} {d x : Nat} {M : qxM} {st : List Value} {a0 a1 a2 a3 a4 a5 a7 a8 : Option Value} {z : Int32} {y : Int32} : Rs L xs (d) 394 2139 [a0, a1, a2, a3, a4, a5, some (.int y), a7, a8] (.int z :: st) M x = Rs L xs (d) 394 2141 [a0, a1, a2, a3, a4, a5, some (.int y), some (.int z), a8] st M x := Rs_next c394_2139 rfl
theorem c394_2141 : qx_code 394 2141 = some (2141, .aload_n 2, 2142, 0, 0, 0) := by decide +kernel
theorem s394_2141 {L : Nat} {xs : Nat → Int32} {d x : Nat} {M : qxM} {st : List Value} {a0 a1 a3 a4 a5 a6 a7 a8 : Option Value} {z : Nat} : Rs L xs (d) 394 2141 [a0, a1, some (.ref z), a3, a4, a5, a6, a7, a8] st M x = Rs L xs (d) 394 2142 [a0, a1, some (.ref z), a3, a4, a5, a6, a7, a8] (.ref z :: st) M x := Rs_next c394_2141 rfl
theorem c394_2142 : qx_code 394 2142 = some (2142, .invokevirtual 218, 2145, 177, 1, 1613) := by decide +kernel
theorem s394_2142 {L : Nat} {xs : Nat → Int32} {d x : Nat} {M : qxM} {st : List Value} {ls : qxL} {t : Nat} (hk : qx_kd t = 18) (hs : st.length ≤ 4) : Rs L xs (d + 1) 394 2142 ls (.ref t :: st) M x = (Rs L xs d 177 0 [some (.ref t)] [] M 0).bind (qx_kn L xs (d + 1) 394 2142 2145 177 ls st x) := by
  have h1 : qx_act L xs (qx_rt 394) (2142, .invokevirtual 218, 2145, 177, 1, 1613) ls (.ref t :: st) M = if 1 ≤ (.ref t :: st).length ∧ st.length ≤ 4 then some (.inr (.inr (.inr (177, [.ref t], st)))) else none := rfl
  rw [if_pos ⟨by simp [List.length_cons]; try omega, hs⟩] at h1
  have h2 := qx_kd_obj (k := 8) (by decide) hk
  exact Rs_call c394_2142 h1 (by rw [show qx_args 177 [.ref t] = decide (qx_sh t = some (.inl 8)) from rfl]; exact decide_eq_true h2)
theorem c394_2145 : qx_code 394 2145 = some (2145, .iload 6, 2147, 0, 0, 0) := by decide +kernel
theorem s394_2145 {L : Nat} {xs : Nat → Int32} {d x : Nat} {M : qxM} {st : List Value} {a0 a1 a2 a3 a4 a5 a7 a8 : Option Value} {z : Int32} : Rs L xs (d) 394 2145 [a0, a1, a2, a3, a4, a5, some (.int z), a7, a8] st M x = Rs L xs (d) 394 2147 [a0, a1, a2, a3, a4, a5, some (.int z), a7, a8] (.int z :: st) M x := Rs_next c394_2145 rfl
theorem c394_2147 : qx_code 394 2147 = some (2147, .if_icmp .eq 5, 2150, 2152, 0, 0) := by decide +kernel
theorem s394_2147 {L : Nat} {xs : Nat → Int32} {d x : Nat} {M : qxM} {st : List Value} {ls : qxL} {z y : Int32} : Rs L xs (d) 394 2147 ls (.int y :: .int z :: st) M x = if z = y then Rs L xs (d) 394 2152 ls st M x else Rs L xs (d) 394 2150 ls st M x := Rs_ite c394_2147 rfl
theorem c394_2152 : qx_code 394 2152 = some (2152, .iload 6, 2154, 0, 0, 0) := by decide +kernel
theorem s394_2152 {L : Nat} {xs : Nat → Int32} {d x : Nat} {M : qxM} {st : List Value} {a0 a1 a2 a3 a4 a5 a7 a8 : Option Value} {z : Int32} : Rs L xs (d) 394 2152 [a0, a1, a2, a3, a4, a5, some (.int z), a7, a8] st M x = Rs L xs (d) 394 2154 [a0, a1, a2, a3, a4, a5, some (.int z), a7, a8] (.int z :: st) M x := Rs_next c394_2152 rfl
theorem c394_2154 : qx_code 394 2154 = some (2154, .ifCond .ne 22, 2157, 2176, 0, 0) := by decide +kernel
theorem s394_2154 {L : Nat} {xs : Nat → Int32} {d x : Nat} {M : qxM} {st : List Value} {ls : qxL} {z : Int32} : Rs L xs (d) 394 2154 ls (.int z :: st) M x = if z = 0 then Rs L xs (d) 394 2157 ls st M x else Rs L xs (d) 394 2176 ls st M x := Rs_ite c394_2154 rfl
theorem c394_2157 : qx_code 394 2157 = some (2157, .aload_n 3, 2158, 0, 0, 0) := by decide +kernel
theorem s394_2157 {L : Nat} {xs : Nat → Int32} {d x : Nat} {M : qxM} {st : List Value} {a0 a1 a2 a4 a5 a6 a7 a8 : Option Value} {z : Nat} : Rs L xs (d) 394 2157 [a0, a1, a2, some (.ref z), a4, a5, a6, a7, a8] st M x = Rs L xs (d) 394 2158 [a0, a1, a2, some (.ref z), a4, a5, a6, a7, a8] (.ref z :: st) M x := Rs_next c394_2157 rfl
theorem c394_2158 : qx_code 394 2158 = some (2158, .iconst 0, 2159, 0, 0, 0) := by decide +kernel
theorem s394_2158 {L : Nat} {xs : Nat → Int32} {d x : Nat} {M : qxM} {st : List Value} {ls : qxL} : Rs L xs (d) 394 2158 ls st M x = Rs L xs (d) 394 2159 ls (.int (nI 0) :: st) M x := Rs_next c394_2158 rfl
theorem c394_2159 : qx_code 394 2159 = some (2159, .laload, 2160, 0, 0, 0) := by decide +kernel
theorem s394_2159 {L : Nat} {xs : Nat → Int32} {d x : Nat} {M : qxM} {st : List Value} {ls : qxL} {t : Nat} {j : Int32} (hk : qx_kd t = 4) (hj : qx_ib j (qx_ln t) = true) : Rs L xs (d) 394 2159 ls (.int j :: .ref t :: st) M x = Rs L xs (d) 394 2160 ls (.long (M.2.1 j.toNatClampNeg) :: st) M x := by
  have h1 := qx_kd_row (k := 4) (by decide) hk
  exact Rs_unless (qx_ib_not hj) c394_2159 (by unfold qx_act; dsimp only; rw [h1]; rfl)
theorem c394_2160 : qx_code 394 2160 = some (2160, .iload 7, 2162, 0, 0, 0) := by decide +kernel
theorem s394_2160 {L : Nat} {xs : Nat → Int32} {d x : Nat} {M : qxM} {st : List Value} {a0 a1 a2 a3 a4 a5 a6 a8 : Option Value} {z : Int32} : Rs L xs (d) 394 2160 [a0, a1, a2, a3, a4, a5, a6, some (.int z), a8] st M x = Rs L xs (d) 394 2162 [a0, a1, a2, a3, a4, a5, a6, some (.int z), a8] (.int z :: st) M x := Rs_next c394_2160 rfl
theorem c394_2162 : qx_code 394 2162 = some (2162, .ifCond .eq 7, 2165, 2169, 0, 0) := by decide +kernel
theorem s394_2162 {L : Nat} {xs : Nat → Int32} {d x : Nat} {M : qxM} {st : List Value} {ls : qxL} {z : Int32} : Rs L xs (d) 394 2162 ls (.int z :: st) M x = if z = 0 then Rs L xs (d) 394 2169 ls st M x else Rs L xs (d) 394 2165 ls st M x := Rs_ite c394_2162 rfl
theorem c394_2165 : qx_code 394 2165 = some (2165, .lconst 1, 2166, 0, 0, 0) := by decide +kernel
theorem s394_2165 {L : Nat} {xs : Nat → Int32} {d x : Nat} {M : qxM} {st : List Value} {ls : qxL} : Rs L xs (d) 394 2165 ls st M x = Rs L xs (d) 394 2166 ls (.long (Int64.ofNat 1) :: st) M x := Rs_next c394_2165 rfl
theorem c394_2166 : qx_code 394 2166 = some (2166, .goto 4, 2169, 2170, 0, 0) := by decide +kernel
theorem s394_2166 {L : Nat} {xs : Nat → Int32} {d x : Nat} {M : qxM} {st : List Value} {ls : qxL} : Rs L xs (d) 394 2166 ls st M x = Rs L xs (d) 394 2170 ls st M x := Rs_next c394_2166 rfl
theorem c394_2169 : qx_code 394 2169 = some (2169, .lconst 0, 2170, 0, 0, 0) := by decide +kernel
theorem s394_2169 {L : Nat} {xs : Nat → Int32} {d x : Nat} {M : qxM} {st : List Value} {ls : qxL} : Rs L xs (d) 394 2169 ls st M x = Rs L xs (d) 394 2170 ls (.long (Int64.ofNat 0) :: st) M x := Rs_next c394_2169 rfl
theorem c394_2170 : qx_code 394 2170 = some (2170, .lcmp, 2171, 0, 0, 0) := by decide +kernel
theorem s394_2170 {L : Nat} {xs : Nat → Int32} {d x : Nat} {M : qxM} {st : List Value} {ls : qxL} {z y : Int64} : Rs L xs (d) 394 2170 ls (.long y :: .long z :: st) M x = Rs L xs (d) 394 2171 ls (.int (lg_cmp z y) :: st) M x := Rs_next c394_2170 rfl
theorem c394_2171 : qx_code 394 2171 = some (2171, .ifCond .eq 5, 2174, 2176, 0, 0) := by decide +kernel
theorem s394_2171 {L : Nat} {xs : Nat → Int32} {d x : Nat} {M : qxM} {st : List Value} {ls : qxL} {z : Int32} : Rs L xs (d) 394 2171 ls (.int z :: st) M x = if z = 0 then Rs L xs (d) 394 2176 ls st M x else Rs L xs (d) 394 2174 ls st M x := Rs_ite c394_2171 rfl
theorem c394_2176 : qx_code 394 2176 = some (2176, .goto 1570, 2179, 3746, 0, 0) := by decide +kernel
theorem s394_2176 {L : Nat} {xs : Nat → Int32} {d x : Nat} {M : qxM} {st : List Value} {ls : qxL} : Rs L xs (d) 394 2176 ls st M x = Rs L xs (d) 394 3746 ls st M x := Rs_next c394_2176 rfl
theorem c394_2179 : qx_code 394 2179 = some (2179, .aload_n 1, 2180, 0, 0, 0) := by decide +kernel
theorem s394_2179 {L : Nat} {xs : Nat → Int32} {d x : Nat} {M : qxM} {st : List Value} {a0 a2 a3 a4 a5 a6 a7 a8 : Option Value} {z : Nat} : Rs L xs (d) 394 2179 [a0, some (.ref z), a2, a3, a4, a5, a6, a7, a8] st M x = Rs L xs (d) 394 2180 [a0, some (.ref z), a2, a3, a4, a5, a6, a7, a8] (.ref z :: st) M x := Rs_next c394_2179 rfl
theorem c394_2180 : qx_code 394 2180 = some (2180, .aload_n 3, 2181, 0, 0, 0) := by decide +kernel
theorem s394_2180 {L : Nat} {xs : Nat → Int32} {d x : Nat} {M : qxM} {st : List Value} {a0 a1 a2 a4 a5 a6 a7 a8 : Option Value} {z : Nat} : Rs L xs (d) 394 2180 [a0, a1, a2, some (.ref z), a4, a5, a6, a7, a8] st M x = Rs L xs (d) 394 2181 [a0, a1, a2, some (.ref z), a4, a5, a6, a7, a8] (.ref z :: st) M x := Rs_next c394_2180 rfl
theorem c394_2181 : qx_code 394 2181 = some (2181, .invokestatic 326, 2184, 366, 2, 1166) := by decide +kernel
theorem s394_2181 {L : Nat} {xs : Nat → Int32} {d x : Nat} {M : qxM} {st : List Value} {ls : qxL} {z0 : Nat} {z1 : Nat} (hs : st.length ≤ 4) : Rs L xs (d + 1) 394 2181 ls (.ref z1 :: .ref z0 :: st) M x = (Rs L xs d 366 0 [some (.ref z0), some (.ref z1), none] [] M 0).bind (qx_kn L xs (d + 1) 394 2181 2184 366 ls st x) := by
  have h1 : qx_act L xs (qx_rt 394) (2181, .invokestatic 326, 2184, 366, 2, 1166) ls (.ref z1 :: .ref z0 :: st) M = if 2 ≤ (.ref z1 :: .ref z0 :: st).length ∧ st.length ≤ 4 then some (.inr (.inr (.inr (366, [.ref z0, .ref z1], st)))) else none := rfl
  rw [if_pos ⟨by simp [List.length_cons]; try omega, hs⟩] at h1
  exact Rs_call c394_2181 h1 rfl
theorem c394_2184 : qx_code 394 2184 = some (2184, .istore 6, 2186, 0, 0, 0) := by decide +kernel
theorem s394_2184i {L : Nat} {xs : Nat → Int32} {d x : Nat} {M : qxM} {st : List Value} {a0 a1 a2 a3 a4 a6 a7 a8 : Option Value} {z : Int32} {y : Int32} : Rs L xs (d) 394 2184 [a0, a1, a2, a3, a4, some (.int y), a6, a7, a8] (.int z :: st) M x = Rs L xs (d) 394 2186 [a0, a1, a2, a3, a4, some (.int y), some (.int z), a7, a8] st M x := Rs_next c394_2184 rfl
theorem c394_2186 : qx_code 394 2186 = some (2186, .aload_n 2, 2187, 0, 0, 0) := by decide +kernel
theorem s394_2186 {L : Nat} {xs : Nat → Int32} {d x : Nat} {M : qxM} {st : List Value} {a0 a1 a3 a4 a5 a6 a7 a8 : Option Value} {z : Nat} : Rs L xs (d) 394 2186 [a0, a1, some (.ref z), a3, a4, a5, a6, a7, a8] st M x = Rs L xs (d) 394 2187 [a0, a1, some (.ref z), a3, a4, a5, a6, a7, a8] (.ref z :: st) M x := Rs_next c394_2186 rfl
theorem c394_2187 : qx_code 394 2187 = some (2187, .invokevirtual 328, 2190, 297, 1, 2030) := by decide +kernel
theorem s394_2187 {L : Nat} {xs : Nat → Int32} {d x : Nat} {M : qxM} {st : List Value} {ls : qxL} {t : Nat} (hk : qx_kd t = 18) (hs : st.length ≤ 4) : Rs L xs (d + 1) 394 2187 ls (.ref t :: st) M x = (Rs L xs d 297 0 [some (.ref t), none] [] M 0).bind (qx_kn L xs (d + 1) 394 2187 2190 297 ls st x) := by
  have h1 : qx_act L xs (qx_rt 394) (2187, .invokevirtual 328, 2190, 297, 1, 2030) ls (.ref t :: st) M = if 1 ≤ (.ref t :: st).length ∧ st.length ≤ 4 then some (.inr (.inr (.inr (297, [.ref t], st)))) else none := rfl
  rw [if_pos ⟨by simp [List.length_cons]; try omega, hs⟩] at h1
  have h2 := qx_kd_obj (k := 8) (by decide) hk
  exact Rs_call c394_2187 h1 (by rw [show qx_args 297 [.ref t] = decide (qx_sh t = some (.inl 8)) from rfl]; exact decide_eq_true h2)
theorem c394_2190 : qx_code 394 2190 = some (2190, .lstore 7, 2192, 0, 0, 0) := by decide +kernel
theorem s394_2190 {L : Nat} {xs : Nat → Int32} {d x : Nat} {M : qxM} {st : List Value} {a0 a1 a2 a3 a4 a5 a7 a8 : Option Value} {z : Int64} {y : Int32} : Rs L xs (d) 394 2190 [a0, a1, a2, a3, a4, a5, some (.int y), a7, a8] (.long z :: st) M x = Rs L xs (d) 394 2192 [a0, a1, a2, a3, a4, a5, some (.int y), some (.long z), none] st M x := Rs_next c394_2190 rfl
theorem c394_2192 : qx_code 394 2192 = some (2192, .aload_n 2, 2193, 0, 0, 0) := by decide +kernel
theorem s394_2192 {L : Nat} {xs : Nat → Int32} {d x : Nat} {M : qxM} {st : List Value} {a0 a1 a3 a4 a5 a6 a7 a8 : Option Value} {z : Nat} : Rs L xs (d) 394 2192 [a0, a1, some (.ref z), a3, a4, a5, a6, a7, a8] st M x = Rs L xs (d) 394 2193 [a0, a1, some (.ref z), a3, a4, a5, a6, a7, a8] (.ref z :: st) M x := Rs_next c394_2192 rfl
theorem c394_2193 : qx_code 394 2193 = some (2193, .invokevirtual 218, 2196, 177, 1, 1613) := by decide +kernel
theorem s394_2193 {L : Nat} {xs : Nat → Int32} {d x : Nat} {M : qxM} {st : List Value} {ls : qxL} {t : Nat} (hk : qx_kd t = 18) (hs : st.length ≤ 4) : Rs L xs (d + 1) 394 2193 ls (.ref t :: st) M x = (Rs L xs d 177 0 [some (.ref t)] [] M 0).bind (qx_kn L xs (d + 1) 394 2193 2196 177 ls st x) := by
  have h1 : qx_act L xs (qx_rt 394) (2193, .invokevirtual 218, 2196, 177, 1, 1613) ls (.ref t :: st) M = if 1 ≤ (.ref t :: st).length ∧ st.length ≤ 4 then some (.inr (.inr (.inr (177, [.ref t], st)))) else none := rfl
  rw [if_pos ⟨by simp [List.length_cons]; try omega, hs⟩] at h1
  have h2 := qx_kd_obj (k := 8) (by decide) hk
  exact Rs_call c394_2193 h1 (by rw [show qx_args 177 [.ref t] = decide (qx_sh t = some (.inl 8)) from rfl]; exact decide_eq_true h2)
theorem c394_2196 : qx_code 394 2196 = some (2196, .iload 6, 2198, 0, 0, 0) := by decide +kernel
theorem s394_2196 {L : Nat} {xs : Nat → Int32} {d x : Nat} {M : qxM} {st : List Value} {a0 a1 a2 a3 a4 a5 a7 a8 : Option Value} {z : Int32} : Rs L xs (d) 394 2196 [a0, a1, a2, a3, a4, a5, some (.int z), a7, a8] st M x = Rs L xs (d) 394 2198 [a0, a1, a2, a3, a4, a5, some (.int z), a7, a8] (.int z :: st) M x := Rs_next c394_2196 rfl
theorem c394_2198 : qx_code 394 2198 = some (2198, .if_icmp .eq 5, 2201, 2203, 0, 0) := by decide +kernel
theorem s394_2198 {L : Nat} {xs : Nat → Int32} {d x : Nat} {M : qxM} {st : List Value} {ls : qxL} {z y : Int32} : Rs L xs (d) 394 2198 ls (.int y :: .int z :: st) M x = if z = y then Rs L xs (d) 394 2203 ls st M x else Rs L xs (d) 394 2201 ls st M x := Rs_ite c394_2198 rfl
theorem c394_2203 : qx_code 394 2203 = some (2203, .iload 6, 2205, 0, 0, 0) := by decide +kernel
theorem s394_2203 {L : Nat} {xs : Nat → Int32} {d x : Nat} {M : qxM} {st : List Value} {a0 a1 a2 a3 a4 a5 a7 a8 : Option Value} {z : Int32} : Rs L xs (d) 394 2203 [a0, a1, a2, a3, a4, a5, some (.int z), a7, a8] st M x = Rs L xs (d) 394 2205 [a0, a1, a2, a3, a4, a5, some (.int z), a7, a8] (.int z :: st) M x := Rs_next c394_2203 rfl
theorem c394_2205 : qx_code 394 2205 = some (2205, .ifCond .ne 14, 2208, 2219, 0, 0) := by decide +kernel
theorem s394_2205 {L : Nat} {xs : Nat → Int32} {d x : Nat} {M : qxM} {st : List Value} {ls : qxL} {z : Int32} : Rs L xs (d) 394 2205 ls (.int z :: st) M x = if z = 0 then Rs L xs (d) 394 2208 ls st M x else Rs L xs (d) 394 2219 ls st M x := Rs_ite c394_2205 rfl
theorem c394_2208 : qx_code 394 2208 = some (2208, .aload_n 3, 2209, 0, 0, 0) := by decide +kernel
theorem s394_2208 {L : Nat} {xs : Nat → Int32} {d x : Nat} {M : qxM} {st : List Value} {a0 a1 a2 a4 a5 a6 a7 a8 : Option Value} {z : Nat} : Rs L xs (d) 394 2208 [a0, a1, a2, some (.ref z), a4, a5, a6, a7, a8] st M x = Rs L xs (d) 394 2209 [a0, a1, a2, some (.ref z), a4, a5, a6, a7, a8] (.ref z :: st) M x := Rs_next c394_2208 rfl
theorem c394_2209 : qx_code 394 2209 = some (2209, .iconst 0, 2210, 0, 0, 0) := by decide +kernel
theorem s394_2209 {L : Nat} {xs : Nat → Int32} {d x : Nat} {M : qxM} {st : List Value} {ls : qxL} : Rs L xs (d) 394 2209 ls st M x = Rs L xs (d) 394 2210 ls (.int (nI 0) :: st) M x := Rs_next c394_2209 rfl
theorem c394_2210 : qx_code 394 2210 = some (2210, .laload, 2211, 0, 0, 0) := by decide +kernel
theorem s394_2210 {L : Nat} {xs : Nat → Int32} {d x : Nat} {M : qxM} {st : List Value} {ls : qxL} {t : Nat} {j : Int32} (hk : qx_kd t = 4) (hj : qx_ib j (qx_ln t) = true) : Rs L xs (d) 394 2210 ls (.int j :: .ref t :: st) M x = Rs L xs (d) 394 2211 ls (.long (M.2.1 j.toNatClampNeg) :: st) M x := by
  have h1 := qx_kd_row (k := 4) (by decide) hk
  exact Rs_unless (qx_ib_not hj) c394_2210 (by unfold qx_act; dsimp only; rw [h1]; rfl)
theorem c394_2211 : qx_code 394 2211 = some (2211, .lload 7, 2213, 0, 0, 0) := by decide +kernel
theorem s394_2211 {L : Nat} {xs : Nat → Int32} {d x : Nat} {M : qxM} {st : List Value} {a0 a1 a2 a3 a4 a5 a6 a8 : Option Value} {z : Int64} : Rs L xs (d) 394 2211 [a0, a1, a2, a3, a4, a5, a6, some (.long z), a8] st M x = Rs L xs (d) 394 2213 [a0, a1, a2, a3, a4, a5, a6, some (.long z), a8] (.long z :: st) M x := Rs_next c394_2211 rfl
theorem c394_2213 : qx_code 394 2213 = some (2213, .lcmp, 2214, 0, 0, 0) := by decide +kernel
theorem s394_2213 {L : Nat} {xs : Nat → Int32} {d x : Nat} {M : qxM} {st : List Value} {ls : qxL} {z y : Int64} : Rs L xs (d) 394 2213 ls (.long y :: .long z :: st) M x = Rs L xs (d) 394 2214 ls (.int (lg_cmp z y) :: st) M x := Rs_next c394_2213 rfl
theorem c394_2214 : qx_code 394 2214 = some (2214, .ifCond .eq 5, 2217, 2219, 0, 0) := by decide +kernel
theorem s394_2214 {L : Nat} {xs : Nat → Int32} {d x : Nat} {M : qxM} {st : List Value} {ls : qxL} {z : Int32} : Rs L xs (d) 394 2214 ls (.int z :: st) M x = if z = 0 then Rs L xs (d) 394 2219 ls st M x else Rs L xs (d) 394 2217 ls st M x := Rs_ite c394_2214 rfl
theorem c394_2219 : qx_code 394 2219 = some (2219, .goto 1527, 2222, 3746, 0, 0) := by decide +kernel
theorem s394_2219 {L : Nat} {xs : Nat → Int32} {d x : Nat} {M : qxM} {st : List Value} {ls : qxL} : Rs L xs (d) 394 2219 ls st M x = Rs L xs (d) 394 3746 ls st M x := Rs_next c394_2219 rfl
theorem c394_2222 : qx_code 394 2222 = some (2222, .aload_n 1, 2223, 0, 0, 0) := by decide +kernel
theorem s394_2222 {L : Nat} {xs : Nat → Int32} {d x : Nat} {M : qxM} {st : List Value} {a0 a2 a3 a4 a5 a6 a7 a8 : Option Value} {z : Nat} : Rs L xs (d) 394 2222 [a0, some (.ref z), a2, a3, a4, a5, a6, a7, a8] st M x = Rs L xs (d) 394 2223 [a0, some (.ref z), a2, a3, a4, a5, a6, a7, a8] (.ref z :: st) M x := Rs_next c394_2222 rfl
theorem c394_2223 : qx_code 394 2223 = some (2223, .aload_n 0, 2224, 0, 0, 0) := by decide +kernel
theorem s394_2223 {L : Nat} {xs : Nat → Int32} {d x : Nat} {M : qxM} {st : List Value} {a1 a2 a3 a4 a5 a6 a7 a8 : Option Value} {z : Nat} : Rs L xs (d) 394 2223 [some (.ref z), a1, a2, a3, a4, a5, a6, a7, a8] st M x = Rs L xs (d) 394 2224 [some (.ref z), a1, a2, a3, a4, a5, a6, a7, a8] (.ref z :: st) M x := Rs_next c394_2223 rfl
theorem c394_2224 : qx_code 394 2224 = some (2224, .iload 5, 2226, 0, 0, 0) := by decide +kernel
theorem s394_2224 {L : Nat} {xs : Nat → Int32} {d x : Nat} {M : qxM} {st : List Value} {a0 a1 a2 a3 a4 a6 a7 a8 : Option Value} {z : Int32} : Rs L xs (d) 394 2224 [a0, a1, a2, a3, a4, some (.int z), a6, a7, a8] st M x = Rs L xs (d) 394 2226 [a0, a1, a2, a3, a4, some (.int z), a6, a7, a8] (.int z :: st) M x := Rs_next c394_2224 rfl
theorem c394_2226 : qx_code 394 2226 = some (2226, .iconst 1, 2227, 0, 0, 0) := by decide +kernel
theorem s394_2226 {L : Nat} {xs : Nat → Int32} {d x : Nat} {M : qxM} {st : List Value} {ls : qxL} : Rs L xs (d) 394 2226 ls st M x = Rs L xs (d) 394 2227 ls (.int (nI 1) :: st) M x := Rs_next c394_2226 rfl
theorem c394_2227 : qx_code 394 2227 = some (2227, .iadd, 2228, 0, 0, 0) := by decide +kernel
theorem s394_2227 {L : Nat} {xs : Nat → Int32} {d x : Nat} {M : qxM} {st : List Value} {ls : qxL} {z y : Int32} : Rs L xs (d) 394 2227 ls (.int y :: .int z :: st) M x = Rs L xs (d) 394 2228 ls (.int (z + y) :: st) M x := Rs_next c394_2227 rfl
theorem c394_2228 : qx_code 394 2228 = some (2228, .iaload, 2229, 0, 0, 0) := by decide +kernel
theorem s394_2228s {L : Nat} {xs : Nat → Int32} {d x : Nat} {M : qxM} {st : List Value} {ls : qxL} {j : Int32} (hj : qx_ib j L = true) : Rs L xs (d) 394 2228 ls (.int j :: .ref 1 :: st) M x = Rs L xs (d) 394 2229 ls (.int (xs j.toNatClampNeg) :: st) M x := Rs_unless (qx_ib_not hj) c394_2228 rfl
theorem c394_2229 : qx_code 394 2229 = some (2229, .aload_n 3, 2230, 0, 0, 0) := by decide +kernel
theorem s394_2229 {L : Nat} {xs : Nat → Int32} {d x : Nat} {M : qxM} {st : List Value} {a0 a1 a2 a4 a5 a6 a7 a8 : Option Value} {z : Nat} : Rs L xs (d) 394 2229 [a0, a1, a2, some (.ref z), a4, a5, a6, a7, a8] st M x = Rs L xs (d) 394 2230 [a0, a1, a2, some (.ref z), a4, a5, a6, a7, a8] (.ref z :: st) M x := Rs_next c394_2229 rfl
theorem c394_2230 : qx_code 394 2230 = some (2230, .invokestatic 329, 2233, 367, 3, 1174) := by decide +kernel
theorem s394_2230 {L : Nat} {xs : Nat → Int32} {d x : Nat} {M : qxM} {st : List Value} {ls : qxL} {z0 : Nat} {z1 : Int32} {z2 : Nat} (hs : st.length ≤ 4) : Rs L xs (d + 1) 394 2230 ls (.ref z2 :: .int z1 :: .ref z0 :: st) M x = (Rs L xs d 367 0 [some (.ref z0), some (.int z1), some (.ref z2), none] [] M 0).bind (qx_kn L xs (d + 1) 394 2230 2233 367 ls st x) := by
  have h1 : qx_act L xs (qx_rt 394) (2230, .invokestatic 329, 2233, 367, 3, 1174) ls (.ref z2 :: .int z1 :: .ref z0 :: st) M = if 3 ≤ (.ref z2 :: .int z1 :: .ref z0 :: st).length ∧ st.length ≤ 4 then some (.inr (.inr (.inr (367, [.ref z0, .int z1, .ref z2], st)))) else none := rfl
  rw [if_pos ⟨by simp [List.length_cons]; try omega, hs⟩] at h1
  exact Rs_call c394_2230 h1 rfl
theorem c394_2233 : qx_code 394 2233 = some (2233, .istore 6, 2235, 0, 0, 0) := by decide +kernel
theorem s394_2233i {L : Nat} {xs : Nat → Int32} {d x : Nat} {M : qxM} {st : List Value} {a0 a1 a2 a3 a4 a6 a7 a8 : Option Value} {z : Int32} {y : Int32} : Rs L xs (d) 394 2233 [a0, a1, a2, a3, a4, some (.int y), a6, a7, a8] (.int z :: st) M x = Rs L xs (d) 394 2235 [a0, a1, a2, a3, a4, some (.int y), some (.int z), a7, a8] st M x := Rs_next c394_2233 rfl
theorem c394_2235 : qx_code 394 2235 = some (2235, .aload_n 2, 2236, 0, 0, 0) := by decide +kernel
theorem s394_2235 {L : Nat} {xs : Nat → Int32} {d x : Nat} {M : qxM} {st : List Value} {a0 a1 a3 a4 a5 a6 a7 a8 : Option Value} {z : Nat} : Rs L xs (d) 394 2235 [a0, a1, some (.ref z), a3, a4, a5, a6, a7, a8] st M x = Rs L xs (d) 394 2236 [a0, a1, some (.ref z), a3, a4, a5, a6, a7, a8] (.ref z :: st) M x := Rs_next c394_2235 rfl
theorem c394_2236 : qx_code 394 2236 = some (2236, .aload_n 0, 2237, 0, 0, 0) := by decide +kernel
theorem s394_2236 {L : Nat} {xs : Nat → Int32} {d x : Nat} {M : qxM} {st : List Value} {a1 a2 a3 a4 a5 a6 a7 a8 : Option Value} {z : Nat} : Rs L xs (d) 394 2236 [some (.ref z), a1, a2, a3, a4, a5, a6, a7, a8] st M x = Rs L xs (d) 394 2237 [some (.ref z), a1, a2, a3, a4, a5, a6, a7, a8] (.ref z :: st) M x := Rs_next c394_2236 rfl
theorem c394_2237 : qx_code 394 2237 = some (2237, .iload 5, 2239, 0, 0, 0) := by decide +kernel
theorem s394_2237 {L : Nat} {xs : Nat → Int32} {d x : Nat} {M : qxM} {st : List Value} {a0 a1 a2 a3 a4 a6 a7 a8 : Option Value} {z : Int32} : Rs L xs (d) 394 2237 [a0, a1, a2, a3, a4, some (.int z), a6, a7, a8] st M x = Rs L xs (d) 394 2239 [a0, a1, a2, a3, a4, some (.int z), a6, a7, a8] (.int z :: st) M x := Rs_next c394_2237 rfl
theorem c394_2239 : qx_code 394 2239 = some (2239, .iconst 1, 2240, 0, 0, 0) := by decide +kernel
theorem s394_2239 {L : Nat} {xs : Nat → Int32} {d x : Nat} {M : qxM} {st : List Value} {ls : qxL} : Rs L xs (d) 394 2239 ls st M x = Rs L xs (d) 394 2240 ls (.int (nI 1) :: st) M x := Rs_next c394_2239 rfl
theorem c394_2240 : qx_code 394 2240 = some (2240, .iadd, 2241, 0, 0, 0) := by decide +kernel
theorem s394_2240 {L : Nat} {xs : Nat → Int32} {d x : Nat} {M : qxM} {st : List Value} {ls : qxL} {z y : Int32} : Rs L xs (d) 394 2240 ls (.int y :: .int z :: st) M x = Rs L xs (d) 394 2241 ls (.int (z + y) :: st) M x := Rs_next c394_2240 rfl
theorem c394_2241 : qx_code 394 2241 = some (2241, .iaload, 2242, 0, 0, 0) := by decide +kernel
theorem s394_2241s {L : Nat} {xs : Nat → Int32} {d x : Nat} {M : qxM} {st : List Value} {ls : qxL} {j : Int32} (hj : qx_ib j L = true) : Rs L xs (d) 394 2241 ls (.int j :: .ref 1 :: st) M x = Rs L xs (d) 394 2242 ls (.int (xs j.toNatClampNeg) :: st) M x := Rs_unless (qx_ib_not hj) c394_2241 rfl
theorem c394_2242 : qx_code 394 2242 = some (2242, .invokevirtual 331, 2245, 299, 2, 2034) := by decide +kernel
theorem s394_2242 {L : Nat} {xs : Nat → Int32} {d x : Nat} {M : qxM} {st : List Value} {ls : qxL} {t : Nat} {z0 : Int32} (hk : qx_kd t = 18) (hs : st.length ≤ 4) : Rs L xs (d + 1) 394 2242 ls (.int z0 :: .ref t :: st) M x = (Rs L xs d 299 0 [some (.ref t), some (.int z0), none, none, none, none] [] M 0).bind (qx_kn L xs (d + 1) 394 2242 2245 299 ls st x) := by
  have h1 : qx_act L xs (qx_rt 394) (2242, .invokevirtual 331, 2245, 299, 2, 2034) ls (.int z0 :: .ref t :: st) M = if 2 ≤ (.int z0 :: .ref t :: st).length ∧ st.length ≤ 4 then some (.inr (.inr (.inr (299, [.ref t, .int z0], st)))) else none := rfl
  rw [if_pos ⟨by simp [List.length_cons]; try omega, hs⟩] at h1
  have h2 := qx_kd_obj (k := 8) (by decide) hk
  exact Rs_call c394_2242 h1 (by rw [show qx_args 299 [.ref t, .int z0] = decide (qx_sh t = some (.inl 8)) from rfl]; exact decide_eq_true h2)
theorem c394_2245 : qx_code 394 2245 = some (2245, .istore 7, 2247, 0, 0, 0) := by decide +kernel
theorem s394_2245i {L : Nat} {xs : Nat → Int32} {d x : Nat} {M : qxM} {st : List Value} {a0 a1 a2 a3 a4 a5 a7 a8 : Option Value} {z : Int32} {y : Int32} : Rs L xs (d) 394 2245 [a0, a1, a2, a3, a4, a5, some (.int y), a7, a8] (.int z :: st) M x = Rs L xs (d) 394 2247 [a0, a1, a2, a3, a4, a5, some (.int y), some (.int z), a8] st M x := Rs_next c394_2245 rfl
theorem c394_2247 : qx_code 394 2247 = some (2247, .aload_n 2, 2248, 0, 0, 0) := by decide +kernel
theorem s394_2247 {L : Nat} {xs : Nat → Int32} {d x : Nat} {M : qxM} {st : List Value} {a0 a1 a3 a4 a5 a6 a7 a8 : Option Value} {z : Nat} : Rs L xs (d) 394 2247 [a0, a1, some (.ref z), a3, a4, a5, a6, a7, a8] st M x = Rs L xs (d) 394 2248 [a0, a1, some (.ref z), a3, a4, a5, a6, a7, a8] (.ref z :: st) M x := Rs_next c394_2247 rfl
theorem c394_2248 : qx_code 394 2248 = some (2248, .invokevirtual 218, 2251, 177, 1, 1613) := by decide +kernel
theorem s394_2248 {L : Nat} {xs : Nat → Int32} {d x : Nat} {M : qxM} {st : List Value} {ls : qxL} {t : Nat} (hk : qx_kd t = 18) (hs : st.length ≤ 4) : Rs L xs (d + 1) 394 2248 ls (.ref t :: st) M x = (Rs L xs d 177 0 [some (.ref t)] [] M 0).bind (qx_kn L xs (d + 1) 394 2248 2251 177 ls st x) := by
  have h1 : qx_act L xs (qx_rt 394) (2248, .invokevirtual 218, 2251, 177, 1, 1613) ls (.ref t :: st) M = if 1 ≤ (.ref t :: st).length ∧ st.length ≤ 4 then some (.inr (.inr (.inr (177, [.ref t], st)))) else none := rfl
  rw [if_pos ⟨by simp [List.length_cons]; try omega, hs⟩] at h1
  have h2 := qx_kd_obj (k := 8) (by decide) hk
  exact Rs_call c394_2248 h1 (by rw [show qx_args 177 [.ref t] = decide (qx_sh t = some (.inl 8)) from rfl]; exact decide_eq_true h2)
theorem c394_2251 : qx_code 394 2251 = some (2251, .iload 6, 2253, 0, 0, 0) := by decide +kernel
theorem s394_2251 {L : Nat} {xs : Nat → Int32} {d x : Nat} {M : qxM} {st : List Value} {a0 a1 a2 a3 a4 a5 a7 a8 : Option Value} {z : Int32} : Rs L xs (d) 394 2251 [a0, a1, a2, a3, a4, a5, some (.int z), a7, a8] st M x = Rs L xs (d) 394 2253 [a0, a1, a2, a3, a4, a5, some (.int z), a7, a8] (.int z :: st) M x := Rs_next c394_2251 rfl
theorem c394_2253 : qx_code 394 2253 = some (2253, .if_icmp .eq 5, 2256, 2258, 0, 0) := by decide +kernel
theorem s394_2253 {L : Nat} {xs : Nat → Int32} {d x : Nat} {M : qxM} {st : List Value} {ls : qxL} {z y : Int32} : Rs L xs (d) 394 2253 ls (.int y :: .int z :: st) M x = if z = y then Rs L xs (d) 394 2258 ls st M x else Rs L xs (d) 394 2256 ls st M x := Rs_ite c394_2253 rfl
theorem c394_2258 : qx_code 394 2258 = some (2258, .iload 6, 2260, 0, 0, 0) := by decide +kernel
theorem s394_2258 {L : Nat} {xs : Nat → Int32} {d x : Nat} {M : qxM} {st : List Value} {a0 a1 a2 a3 a4 a5 a7 a8 : Option Value} {z : Int32} : Rs L xs (d) 394 2258 [a0, a1, a2, a3, a4, a5, some (.int z), a7, a8] st M x = Rs L xs (d) 394 2260 [a0, a1, a2, a3, a4, a5, some (.int z), a7, a8] (.int z :: st) M x := Rs_next c394_2258 rfl
theorem c394_2260 : qx_code 394 2260 = some (2260, .ifCond .ne 15, 2263, 2275, 0, 0) := by decide +kernel
theorem s394_2260 {L : Nat} {xs : Nat → Int32} {d x : Nat} {M : qxM} {st : List Value} {ls : qxL} {z : Int32} : Rs L xs (d) 394 2260 ls (.int z :: st) M x = if z = 0 then Rs L xs (d) 394 2263 ls st M x else Rs L xs (d) 394 2275 ls st M x := Rs_ite c394_2260 rfl
theorem c394_2263 : qx_code 394 2263 = some (2263, .aload_n 3, 2264, 0, 0, 0) := by decide +kernel
theorem s394_2263 {L : Nat} {xs : Nat → Int32} {d x : Nat} {M : qxM} {st : List Value} {a0 a1 a2 a4 a5 a6 a7 a8 : Option Value} {z : Nat} : Rs L xs (d) 394 2263 [a0, a1, a2, some (.ref z), a4, a5, a6, a7, a8] st M x = Rs L xs (d) 394 2264 [a0, a1, a2, some (.ref z), a4, a5, a6, a7, a8] (.ref z :: st) M x := Rs_next c394_2263 rfl
theorem c394_2264 : qx_code 394 2264 = some (2264, .iconst 0, 2265, 0, 0, 0) := by decide +kernel
theorem s394_2264 {L : Nat} {xs : Nat → Int32} {d x : Nat} {M : qxM} {st : List Value} {ls : qxL} : Rs L xs (d) 394 2264 ls st M x = Rs L xs (d) 394 2265 ls (.int (nI 0) :: st) M x := Rs_next c394_2264 rfl
theorem c394_2265 : qx_code 394 2265 = some (2265, .laload, 2266, 0, 0, 0) := by decide +kernel
theorem s394_2265 {L : Nat} {xs : Nat → Int32} {d x : Nat} {M : qxM} {st : List Value} {ls : qxL} {t : Nat} {j : Int32} (hk : qx_kd t = 4) (hj : qx_ib j (qx_ln t) = true) : Rs L xs (d) 394 2265 ls (.int j :: .ref t :: st) M x = Rs L xs (d) 394 2266 ls (.long (M.2.1 j.toNatClampNeg) :: st) M x := by
  have h1 := qx_kd_row (k := 4) (by decide) hk
  exact Rs_unless (qx_ib_not hj) c394_2265 (by unfold qx_act; dsimp only; rw [h1]; rfl)
theorem c394_2266 : qx_code 394 2266 = some (2266, .iload 7, 2268, 0, 0, 0) := by decide +kernel
theorem s394_2266 {L : Nat} {xs : Nat → Int32} {d x : Nat} {M : qxM} {st : List Value} {a0 a1 a2 a3 a4 a5 a6 a8 : Option Value} {z : Int32} : Rs L xs (d) 394 2266 [a0, a1, a2, a3, a4, a5, a6, some (.int z), a8] st M x = Rs L xs (d) 394 2268 [a0, a1, a2, a3, a4, a5, a6, some (.int z), a8] (.int z :: st) M x := Rs_next c394_2266 rfl
theorem c394_2268 : qx_code 394 2268 = some (2268, .i2l, 2269, 0, 0, 0) := by decide +kernel
theorem s394_2268 {L : Nat} {xs : Nat → Int32} {d x : Nat} {M : qxM} {st : List Value} {ls : qxL} {z : Int32} : Rs L xs (d) 394 2268 ls (.int z :: st) M x = Rs L xs (d) 394 2269 ls (.long z.toInt64 :: st) M x := Rs_next c394_2268 rfl
theorem c394_2269 : qx_code 394 2269 = some (2269, .lcmp, 2270, 0, 0, 0) := by decide +kernel
theorem s394_2269 {L : Nat} {xs : Nat → Int32} {d x : Nat} {M : qxM} {st : List Value} {ls : qxL} {z y : Int64} : Rs L xs (d) 394 2269 ls (.long y :: .long z :: st) M x = Rs L xs (d) 394 2270 ls (.int (lg_cmp z y) :: st) M x := Rs_next c394_2269 rfl
theorem c394_2270 : qx_code 394 2270 = some (2270, .ifCond .eq 5, 2273, 2275, 0, 0) := by decide +kernel
theorem s394_2270 {L : Nat} {xs : Nat → Int32} {d x : Nat} {M : qxM} {st : List Value} {ls : qxL} {z : Int32} : Rs L xs (d) 394 2270 ls (.int z :: st) M x = if z = 0 then Rs L xs (d) 394 2275 ls st M x else Rs L xs (d) 394 2273 ls st M x := Rs_ite c394_2270 rfl
theorem c394_2275 : qx_code 394 2275 = some (2275, .goto 1471, 2278, 3746, 0, 0) := by decide +kernel
theorem s394_2275 {L : Nat} {xs : Nat → Int32} {d x : Nat} {M : qxM} {st : List Value} {ls : qxL} : Rs L xs (d) 394 2275 ls st M x = Rs L xs (d) 394 3746 ls st M x := Rs_next c394_2275 rfl
theorem c394_2278 : qx_code 394 2278 = some (2278, .aload_n 1, 2279, 0, 0, 0) := by decide +kernel
theorem s394_2278 {L : Nat} {xs : Nat → Int32} {d x : Nat} {M : qxM} {st : List Value} {a0 a2 a3 a4 a5 a6 a7 a8 : Option Value} {z : Nat} : Rs L xs (d) 394 2278 [a0, some (.ref z), a2, a3, a4, a5, a6, a7, a8] st M x = Rs L xs (d) 394 2279 [a0, some (.ref z), a2, a3, a4, a5, a6, a7, a8] (.ref z :: st) M x := Rs_next c394_2278 rfl
theorem c394_2279 : qx_code 394 2279 = some (2279, .aload_n 0, 2280, 0, 0, 0) := by decide +kernel
theorem s394_2279 {L : Nat} {xs : Nat → Int32} {d x : Nat} {M : qxM} {st : List Value} {a1 a2 a3 a4 a5 a6 a7 a8 : Option Value} {z : Nat} : Rs L xs (d) 394 2279 [some (.ref z), a1, a2, a3, a4, a5, a6, a7, a8] st M x = Rs L xs (d) 394 2280 [some (.ref z), a1, a2, a3, a4, a5, a6, a7, a8] (.ref z :: st) M x := Rs_next c394_2279 rfl
theorem c394_2280 : qx_code 394 2280 = some (2280, .iload 5, 2282, 0, 0, 0) := by decide +kernel
theorem s394_2280 {L : Nat} {xs : Nat → Int32} {d x : Nat} {M : qxM} {st : List Value} {a0 a1 a2 a3 a4 a6 a7 a8 : Option Value} {z : Int32} : Rs L xs (d) 394 2280 [a0, a1, a2, a3, a4, some (.int z), a6, a7, a8] st M x = Rs L xs (d) 394 2282 [a0, a1, a2, a3, a4, some (.int z), a6, a7, a8] (.int z :: st) M x := Rs_next c394_2280 rfl
theorem c394_2282 : qx_code 394 2282 = some (2282, .iconst 1, 2283, 0, 0, 0) := by decide +kernel
theorem s394_2282 {L : Nat} {xs : Nat → Int32} {d x : Nat} {M : qxM} {st : List Value} {ls : qxL} : Rs L xs (d) 394 2282 ls st M x = Rs L xs (d) 394 2283 ls (.int (nI 1) :: st) M x := Rs_next c394_2282 rfl
theorem c394_2283 : qx_code 394 2283 = some (2283, .iadd, 2284, 0, 0, 0) := by decide +kernel
theorem s394_2283 {L : Nat} {xs : Nat → Int32} {d x : Nat} {M : qxM} {st : List Value} {ls : qxL} {z y : Int32} : Rs L xs (d) 394 2283 ls (.int y :: .int z :: st) M x = Rs L xs (d) 394 2284 ls (.int (z + y) :: st) M x := Rs_next c394_2283 rfl
theorem c394_2284 : qx_code 394 2284 = some (2284, .iaload, 2285, 0, 0, 0) := by decide +kernel
theorem s394_2284s {L : Nat} {xs : Nat → Int32} {d x : Nat} {M : qxM} {st : List Value} {ls : qxL} {j : Int32} (hj : qx_ib j L = true) : Rs L xs (d) 394 2284 ls (.int j :: .ref 1 :: st) M x = Rs L xs (d) 394 2285 ls (.int (xs j.toNatClampNeg) :: st) M x := Rs_unless (qx_ib_not hj) c394_2284 rfl
theorem c394_2285 : qx_code 394 2285 = some (2285, .aload_n 3, 2286, 0, 0, 0) := by decide +kernel
theorem s394_2285 {L : Nat} {xs : Nat → Int32} {d x : Nat} {M : qxM} {st : List Value} {a0 a1 a2 a4 a5 a6 a7 a8 : Option Value} {z : Nat} : Rs L xs (d) 394 2285 [a0, a1, a2, some (.ref z), a4, a5, a6, a7, a8] st M x = Rs L xs (d) 394 2286 [a0, a1, a2, some (.ref z), a4, a5, a6, a7, a8] (.ref z :: st) M x := Rs_next c394_2285 rfl
theorem c394_2286 : qx_code 394 2286 = some (2286, .invokestatic 332, 2289, 368, 3, 1185) := by decide +kernel
theorem s394_2286 {L : Nat} {xs : Nat → Int32} {d x : Nat} {M : qxM} {st : List Value} {ls : qxL} {z0 : Nat} {z1 : Int32} {z2 : Nat} (hs : st.length ≤ 4) : Rs L xs (d + 1) 394 2286 ls (.ref z2 :: .int z1 :: .ref z0 :: st) M x = (Rs L xs d 368 0 [some (.ref z0), some (.int z1), some (.ref z2), none] [] M 0).bind (qx_kn L xs (d + 1) 394 2286 2289 368 ls st x) := by
  have h1 : qx_act L xs (qx_rt 394) (2286, .invokestatic 332, 2289, 368, 3, 1185) ls (.ref z2 :: .int z1 :: .ref z0 :: st) M = if 3 ≤ (.ref z2 :: .int z1 :: .ref z0 :: st).length ∧ st.length ≤ 4 then some (.inr (.inr (.inr (368, [.ref z0, .int z1, .ref z2], st)))) else none := rfl
  rw [if_pos ⟨by simp [List.length_cons]; try omega, hs⟩] at h1
  exact Rs_call c394_2286 h1 rfl
theorem c394_2289 : qx_code 394 2289 = some (2289, .istore 6, 2291, 0, 0, 0) := by decide +kernel
theorem s394_2289i {L : Nat} {xs : Nat → Int32} {d x : Nat} {M : qxM} {st : List Value} {a0 a1 a2 a3 a4 a6 a7 a8 : Option Value} {z : Int32} {y : Int32} : Rs L xs (d) 394 2289 [a0, a1, a2, a3, a4, some (.int y), a6, a7, a8] (.int z :: st) M x = Rs L xs (d) 394 2291 [a0, a1, a2, a3, a4, some (.int y), some (.int z), a7, a8] st M x := Rs_next c394_2289 rfl
theorem c394_2291 : qx_code 394 2291 = some (2291, .aload_n 2, 2292, 0, 0, 0) := by decide +kernel
theorem s394_2291 {L : Nat} {xs : Nat → Int32} {d x : Nat} {M : qxM} {st : List Value} {a0 a1 a3 a4 a5 a6 a7 a8 : Option Value} {z : Nat} : Rs L xs (d) 394 2291 [a0, a1, some (.ref z), a3, a4, a5, a6, a7, a8] st M x = Rs L xs (d) 394 2292 [a0, a1, some (.ref z), a3, a4, a5, a6, a7, a8] (.ref z :: st) M x := Rs_next c394_2291 rfl
theorem c394_2292 : qx_code 394 2292 = some (2292, .aload_n 0, 2293, 0, 0, 0) := by decide +kernel
theorem s394_2292 {L : Nat} {xs : Nat → Int32} {d x : Nat} {M : qxM} {st : List Value} {a1 a2 a3 a4 a5 a6 a7 a8 : Option Value} {z : Nat} : Rs L xs (d) 394 2292 [some (.ref z), a1, a2, a3, a4, a5, a6, a7, a8] st M x = Rs L xs (d) 394 2293 [some (.ref z), a1, a2, a3, a4, a5, a6, a7, a8] (.ref z :: st) M x := Rs_next c394_2292 rfl
theorem c394_2293 : qx_code 394 2293 = some (2293, .iload 5, 2295, 0, 0, 0) := by decide +kernel
theorem s394_2293 {L : Nat} {xs : Nat → Int32} {d x : Nat} {M : qxM} {st : List Value} {a0 a1 a2 a3 a4 a6 a7 a8 : Option Value} {z : Int32} : Rs L xs (d) 394 2293 [a0, a1, a2, a3, a4, some (.int z), a6, a7, a8] st M x = Rs L xs (d) 394 2295 [a0, a1, a2, a3, a4, some (.int z), a6, a7, a8] (.int z :: st) M x := Rs_next c394_2293 rfl
theorem c394_2295 : qx_code 394 2295 = some (2295, .iconst 1, 2296, 0, 0, 0) := by decide +kernel
theorem s394_2295 {L : Nat} {xs : Nat → Int32} {d x : Nat} {M : qxM} {st : List Value} {ls : qxL} : Rs L xs (d) 394 2295 ls st M x = Rs L xs (d) 394 2296 ls (.int (nI 1) :: st) M x := Rs_next c394_2295 rfl
theorem c394_2296 : qx_code 394 2296 = some (2296, .iadd, 2297, 0, 0, 0) := by decide +kernel
theorem s394_2296 {L : Nat} {xs : Nat → Int32} {d x : Nat} {M : qxM} {st : List Value} {ls : qxL} {z y : Int32} : Rs L xs (d) 394 2296 ls (.int y :: .int z :: st) M x = Rs L xs (d) 394 2297 ls (.int (z + y) :: st) M x := Rs_next c394_2296 rfl
theorem c394_2297 : qx_code 394 2297 = some (2297, .iaload, 2298, 0, 0, 0) := by decide +kernel
theorem s394_2297s {L : Nat} {xs : Nat → Int32} {d x : Nat} {M : qxM} {st : List Value} {ls : qxL} {j : Int32} (hj : qx_ib j L = true) : Rs L xs (d) 394 2297 ls (.int j :: .ref 1 :: st) M x = Rs L xs (d) 394 2298 ls (.int (xs j.toNatClampNeg) :: st) M x := Rs_unless (qx_ib_not hj) c394_2297 rfl
theorem c394_2298 : qx_code 394 2298 = some (2298, .invokevirtual 334, 2301, 300, 2, 2042) := by decide +kernel
theorem s394_2298 {L : Nat} {xs : Nat → Int32} {d x : Nat} {M : qxM} {st : List Value} {ls : qxL} {t : Nat} {z0 : Int32} (hk : qx_kd t = 18) (hs : st.length ≤ 4) : Rs L xs (d + 1) 394 2298 ls (.int z0 :: .ref t :: st) M x = (Rs L xs d 300 0 [some (.ref t), some (.int z0), none] [] M 0).bind (qx_kn L xs (d + 1) 394 2298 2301 300 ls st x) := by
  have h1 : qx_act L xs (qx_rt 394) (2298, .invokevirtual 334, 2301, 300, 2, 2042) ls (.int z0 :: .ref t :: st) M = if 2 ≤ (.int z0 :: .ref t :: st).length ∧ st.length ≤ 4 then some (.inr (.inr (.inr (300, [.ref t, .int z0], st)))) else none := rfl
  rw [if_pos ⟨by simp [List.length_cons]; try omega, hs⟩] at h1
  have h2 := qx_kd_obj (k := 8) (by decide) hk
  exact Rs_call c394_2298 h1 (by rw [show qx_args 300 [.ref t, .int z0] = decide (qx_sh t = some (.inl 8)) from rfl]; exact decide_eq_true h2)
theorem c394_2301 : qx_code 394 2301 = some (2301, .istore 7, 2303, 0, 0, 0) := by decide +kernel
theorem s394_2301i {L : Nat} {xs : Nat → Int32} {d x : Nat} {M : qxM} {st : List Value} {a0 a1 a2 a3 a4 a5 a7 a8 : Option Value} {z : Int32} {y : Int32} : Rs L xs (d) 394 2301 [a0, a1, a2, a3, a4, a5, some (.int y), a7, a8] (.int z :: st) M x = Rs L xs (d) 394 2303 [a0, a1, a2, a3, a4, a5, some (.int y), some (.int z), a8] st M x := Rs_next c394_2301 rfl
theorem c394_2303 : qx_code 394 2303 = some (2303, .aload_n 2, 2304, 0, 0, 0) := by decide +kernel
theorem s394_2303 {L : Nat} {xs : Nat → Int32} {d x : Nat} {M : qxM} {st : List Value} {a0 a1 a3 a4 a5 a6 a7 a8 : Option Value} {z : Nat} : Rs L xs (d) 394 2303 [a0, a1, some (.ref z), a3, a4, a5, a6, a7, a8] st M x = Rs L xs (d) 394 2304 [a0, a1, some (.ref z), a3, a4, a5, a6, a7, a8] (.ref z :: st) M x := Rs_next c394_2303 rfl
theorem c394_2304 : qx_code 394 2304 = some (2304, .invokevirtual 218, 2307, 177, 1, 1613) := by decide +kernel
theorem s394_2304 {L : Nat} {xs : Nat → Int32} {d x : Nat} {M : qxM} {st : List Value} {ls : qxL} {t : Nat} (hk : qx_kd t = 18) (hs : st.length ≤ 4) : Rs L xs (d + 1) 394 2304 ls (.ref t :: st) M x = (Rs L xs d 177 0 [some (.ref t)] [] M 0).bind (qx_kn L xs (d + 1) 394 2304 2307 177 ls st x) := by
  have h1 : qx_act L xs (qx_rt 394) (2304, .invokevirtual 218, 2307, 177, 1, 1613) ls (.ref t :: st) M = if 1 ≤ (.ref t :: st).length ∧ st.length ≤ 4 then some (.inr (.inr (.inr (177, [.ref t], st)))) else none := rfl
  rw [if_pos ⟨by simp [List.length_cons]; try omega, hs⟩] at h1
  have h2 := qx_kd_obj (k := 8) (by decide) hk
  exact Rs_call c394_2304 h1 (by rw [show qx_args 177 [.ref t] = decide (qx_sh t = some (.inl 8)) from rfl]; exact decide_eq_true h2)
theorem c394_2307 : qx_code 394 2307 = some (2307, .iload 6, 2309, 0, 0, 0) := by decide +kernel
theorem s394_2307 {L : Nat} {xs : Nat → Int32} {d x : Nat} {M : qxM} {st : List Value} {a0 a1 a2 a3 a4 a5 a7 a8 : Option Value} {z : Int32} : Rs L xs (d) 394 2307 [a0, a1, a2, a3, a4, a5, some (.int z), a7, a8] st M x = Rs L xs (d) 394 2309 [a0, a1, a2, a3, a4, a5, some (.int z), a7, a8] (.int z :: st) M x := Rs_next c394_2307 rfl
theorem c394_2309 : qx_code 394 2309 = some (2309, .if_icmp .eq 5, 2312, 2314, 0, 0) := by decide +kernel
theorem s394_2309 {L : Nat} {xs : Nat → Int32} {d x : Nat} {M : qxM} {st : List Value} {ls : qxL} {z y : Int32} : Rs L xs (d) 394 2309 ls (.int y :: .int z :: st) M x = if z = y then Rs L xs (d) 394 2314 ls st M x else Rs L xs (d) 394 2312 ls st M x := Rs_ite c394_2309 rfl
theorem c394_2314 : qx_code 394 2314 = some (2314, .iload 6, 2316, 0, 0, 0) := by decide +kernel
theorem s394_2314 {L : Nat} {xs : Nat → Int32} {d x : Nat} {M : qxM} {st : List Value} {a0 a1 a2 a3 a4 a5 a7 a8 : Option Value} {z : Int32} : Rs L xs (d) 394 2314 [a0, a1, a2, a3, a4, a5, some (.int z), a7, a8] st M x = Rs L xs (d) 394 2316 [a0, a1, a2, a3, a4, a5, some (.int z), a7, a8] (.int z :: st) M x := Rs_next c394_2314 rfl
theorem c394_2316 : qx_code 394 2316 = some (2316, .ifCond .ne 15, 2319, 2331, 0, 0) := by decide +kernel
theorem s394_2316 {L : Nat} {xs : Nat → Int32} {d x : Nat} {M : qxM} {st : List Value} {ls : qxL} {z : Int32} : Rs L xs (d) 394 2316 ls (.int z :: st) M x = if z = 0 then Rs L xs (d) 394 2319 ls st M x else Rs L xs (d) 394 2331 ls st M x := Rs_ite c394_2316 rfl
theorem c394_2319 : qx_code 394 2319 = some (2319, .aload_n 3, 2320, 0, 0, 0) := by decide +kernel
theorem s394_2319 {L : Nat} {xs : Nat → Int32} {d x : Nat} {M : qxM} {st : List Value} {a0 a1 a2 a4 a5 a6 a7 a8 : Option Value} {z : Nat} : Rs L xs (d) 394 2319 [a0, a1, a2, some (.ref z), a4, a5, a6, a7, a8] st M x = Rs L xs (d) 394 2320 [a0, a1, a2, some (.ref z), a4, a5, a6, a7, a8] (.ref z :: st) M x := Rs_next c394_2319 rfl
theorem c394_2320 : qx_code 394 2320 = some (2320, .iconst 0, 2321, 0, 0, 0) := by decide +kernel
theorem s394_2320 {L : Nat} {xs : Nat → Int32} {d x : Nat} {M : qxM} {st : List Value} {ls : qxL} : Rs L xs (d) 394 2320 ls st M x = Rs L xs (d) 394 2321 ls (.int (nI 0) :: st) M x := Rs_next c394_2320 rfl
theorem c394_2321 : qx_code 394 2321 = some (2321, .laload, 2322, 0, 0, 0) := by decide +kernel
theorem s394_2321 {L : Nat} {xs : Nat → Int32} {d x : Nat} {M : qxM} {st : List Value} {ls : qxL} {t : Nat} {j : Int32} (hk : qx_kd t = 4) (hj : qx_ib j (qx_ln t) = true) : Rs L xs (d) 394 2321 ls (.int j :: .ref t :: st) M x = Rs L xs (d) 394 2322 ls (.long (M.2.1 j.toNatClampNeg) :: st) M x := by
  have h1 := qx_kd_row (k := 4) (by decide) hk
  exact Rs_unless (qx_ib_not hj) c394_2321 (by unfold qx_act; dsimp only; rw [h1]; rfl)
theorem c394_2322 : qx_code 394 2322 = some (2322, .iload 7, 2324, 0, 0, 0) := by decide +kernel
theorem s394_2322 {L : Nat} {xs : Nat → Int32} {d x : Nat} {M : qxM} {st : List Value} {a0 a1 a2 a3 a4 a5 a6 a8 : Option Value} {z : Int32} : Rs L xs (d) 394 2322 [a0, a1, a2, a3, a4, a5, a6, some (.int z), a8] st M x = Rs L xs (d) 394 2324 [a0, a1, a2, a3, a4, a5, a6, some (.int z), a8] (.int z :: st) M x := Rs_next c394_2322 rfl
theorem c394_2324 : qx_code 394 2324 = some (2324, .i2l, 2325, 0, 0, 0) := by decide +kernel
theorem s394_2324 {L : Nat} {xs : Nat → Int32} {d x : Nat} {M : qxM} {st : List Value} {ls : qxL} {z : Int32} : Rs L xs (d) 394 2324 ls (.int z :: st) M x = Rs L xs (d) 394 2325 ls (.long z.toInt64 :: st) M x := Rs_next c394_2324 rfl
theorem c394_2325 : qx_code 394 2325 = some (2325, .lcmp, 2326, 0, 0, 0) := by decide +kernel
theorem s394_2325 {L : Nat} {xs : Nat → Int32} {d x : Nat} {M : qxM} {st : List Value} {ls : qxL} {z y : Int64} : Rs L xs (d) 394 2325 ls (.long y :: .long z :: st) M x = Rs L xs (d) 394 2326 ls (.int (lg_cmp z y) :: st) M x := Rs_next c394_2325 rfl
theorem c394_2326 : qx_code 394 2326 = some (2326, .ifCond .eq 5, 2329, 2331, 0, 0) := by decide +kernel
theorem s394_2326 {L : Nat} {xs : Nat → Int32} {d x : Nat} {M : qxM} {st : List Value} {ls : qxL} {z : Int32} : Rs L xs (d) 394 2326 ls (.int z :: st) M x = if z = 0 then Rs L xs (d) 394 2331 ls st M x else Rs L xs (d) 394 2329 ls st M x := Rs_ite c394_2326 rfl
theorem c394_2331 : qx_code 394 2331 = some (2331, .goto 1415, 2334, 3746, 0, 0) := by decide +kernel
theorem s394_2331 {L : Nat} {xs : Nat → Int32} {d x : Nat} {M : qxM} {st : List Value} {ls : qxL} : Rs L xs (d) 394 2331 ls st M x = Rs L xs (d) 394 3746 ls st M x := Rs_next c394_2331 rfl
theorem c394_2334 : qx_code 394 2334 = some (2334, .aload_n 1, 2335, 0, 0, 0) := by decide +kernel
theorem s394_2334 {L : Nat} {xs : Nat → Int32} {d x : Nat} {M : qxM} {st : List Value} {a0 a2 a3 a4 a5 a6 a7 a8 : Option Value} {z : Nat} : Rs L xs (d) 394 2334 [a0, some (.ref z), a2, a3, a4, a5, a6, a7, a8] st M x = Rs L xs (d) 394 2335 [a0, some (.ref z), a2, a3, a4, a5, a6, a7, a8] (.ref z :: st) M x := Rs_next c394_2334 rfl
theorem c394_2335 : qx_code 394 2335 = some (2335, .aload_n 0, 2336, 0, 0, 0) := by decide +kernel
theorem s394_2335 {L : Nat} {xs : Nat → Int32} {d x : Nat} {M : qxM} {st : List Value} {a1 a2 a3 a4 a5 a6 a7 a8 : Option Value} {z : Nat} : Rs L xs (d) 394 2335 [some (.ref z), a1, a2, a3, a4, a5, a6, a7, a8] st M x = Rs L xs (d) 394 2336 [some (.ref z), a1, a2, a3, a4, a5, a6, a7, a8] (.ref z :: st) M x := Rs_next c394_2335 rfl
theorem c394_2336 : qx_code 394 2336 = some (2336, .iload 5, 2338, 0, 0, 0) := by decide +kernel
theorem s394_2336 {L : Nat} {xs : Nat → Int32} {d x : Nat} {M : qxM} {st : List Value} {a0 a1 a2 a3 a4 a6 a7 a8 : Option Value} {z : Int32} : Rs L xs (d) 394 2336 [a0, a1, a2, a3, a4, some (.int z), a6, a7, a8] st M x = Rs L xs (d) 394 2338 [a0, a1, a2, a3, a4, some (.int z), a6, a7, a8] (.int z :: st) M x := Rs_next c394_2336 rfl
theorem c394_2338 : qx_code 394 2338 = some (2338, .iconst 1, 2339, 0, 0, 0) := by decide +kernel
theorem s394_2338 {L : Nat} {xs : Nat → Int32} {d x : Nat} {M : qxM} {st : List Value} {ls : qxL} : Rs L xs (d) 394 2338 ls st M x = Rs L xs (d) 394 2339 ls (.int (nI 1) :: st) M x := Rs_next c394_2338 rfl
theorem c394_2339 : qx_code 394 2339 = some (2339, .iadd, 2340, 0, 0, 0) := by decide +kernel
theorem s394_2339 {L : Nat} {xs : Nat → Int32} {d x : Nat} {M : qxM} {st : List Value} {ls : qxL} {z y : Int32} : Rs L xs (d) 394 2339 ls (.int y :: .int z :: st) M x = Rs L xs (d) 394 2340 ls (.int (z + y) :: st) M x := Rs_next c394_2339 rfl
theorem c394_2340 : qx_code 394 2340 = some (2340, .iaload, 2341, 0, 0, 0) := by decide +kernel
theorem s394_2340s {L : Nat} {xs : Nat → Int32} {d x : Nat} {M : qxM} {st : List Value} {ls : qxL} {j : Int32} (hj : qx_ib j L = true) : Rs L xs (d) 394 2340 ls (.int j :: .ref 1 :: st) M x = Rs L xs (d) 394 2341 ls (.int (xs j.toNatClampNeg) :: st) M x := Rs_unless (qx_ib_not hj) c394_2340 rfl
theorem c394_2341 : qx_code 394 2341 = some (2341, .aload_n 0, 2342, 0, 0, 0) := by decide +kernel
theorem s394_2341 {L : Nat} {xs : Nat → Int32} {d x : Nat} {M : qxM} {st : List Value} {a1 a2 a3 a4 a5 a6 a7 a8 : Option Value} {z : Nat} : Rs L xs (d) 394 2341 [some (.ref z), a1, a2, a3, a4, a5, a6, a7, a8] st M x = Rs L xs (d) 394 2342 [some (.ref z), a1, a2, a3, a4, a5, a6, a7, a8] (.ref z :: st) M x := Rs_next c394_2341 rfl
theorem c394_2342 : qx_code 394 2342 = some (2342, .iload 5, 2344, 0, 0, 0) := by decide +kernel
theorem s394_2342 {L : Nat} {xs : Nat → Int32} {d x : Nat} {M : qxM} {st : List Value} {a0 a1 a2 a3 a4 a6 a7 a8 : Option Value} {z : Int32} : Rs L xs (d) 394 2342 [a0, a1, a2, a3, a4, some (.int z), a6, a7, a8] st M x = Rs L xs (d) 394 2344 [a0, a1, a2, a3, a4, some (.int z), a6, a7, a8] (.int z :: st) M x := Rs_next c394_2342 rfl
theorem c394_2344 : qx_code 394 2344 = some (2344, .iconst 2, 2345, 0, 0, 0) := by decide +kernel
theorem s394_2344 {L : Nat} {xs : Nat → Int32} {d x : Nat} {M : qxM} {st : List Value} {ls : qxL} : Rs L xs (d) 394 2344 ls st M x = Rs L xs (d) 394 2345 ls (.int (nI 2) :: st) M x := Rs_next c394_2344 rfl
theorem c394_2345 : qx_code 394 2345 = some (2345, .iadd, 2346, 0, 0, 0) := by decide +kernel
theorem s394_2345 {L : Nat} {xs : Nat → Int32} {d x : Nat} {M : qxM} {st : List Value} {ls : qxL} {z y : Int32} : Rs L xs (d) 394 2345 ls (.int y :: .int z :: st) M x = Rs L xs (d) 394 2346 ls (.int (z + y) :: st) M x := Rs_next c394_2345 rfl
theorem c394_2346 : qx_code 394 2346 = some (2346, .iaload, 2347, 0, 0, 0) := by decide +kernel
theorem s394_2346s {L : Nat} {xs : Nat → Int32} {d x : Nat} {M : qxM} {st : List Value} {ls : qxL} {j : Int32} (hj : qx_ib j L = true) : Rs L xs (d) 394 2346 ls (.int j :: .ref 1 :: st) M x = Rs L xs (d) 394 2347 ls (.int (xs j.toNatClampNeg) :: st) M x := Rs_unless (qx_ib_not hj) c394_2346 rfl
theorem c394_2347 : qx_code 394 2347 = some (2347, .aload_n 3, 2348, 0, 0, 0) := by decide +kernel
theorem s394_2347 {L : Nat} {xs : Nat → Int32} {d x : Nat} {M : qxM} {st : List Value} {a0 a1 a2 a4 a5 a6 a7 a8 : Option Value} {z : Nat} : Rs L xs (d) 394 2347 [a0, a1, a2, some (.ref z), a4, a5, a6, a7, a8] st M x = Rs L xs (d) 394 2348 [a0, a1, a2, some (.ref z), a4, a5, a6, a7, a8] (.ref z :: st) M x := Rs_next c394_2347 rfl
theorem c394_2348 : qx_code 394 2348 = some (2348, .invokestatic 335, 2351, 369, 4, 1193) := by decide +kernel
theorem s394_2348 {L : Nat} {xs : Nat → Int32} {d x : Nat} {M : qxM} {st : List Value} {ls : qxL} {z0 : Nat} {z1 : Int32} {z2 : Int32} {z3 : Nat} (hs : st.length ≤ 4) : Rs L xs (d + 1) 394 2348 ls (.ref z3 :: .int z2 :: .int z1 :: .ref z0 :: st) M x = (Rs L xs d 369 0 [some (.ref z0), some (.int z1), some (.int z2), some (.ref z3), none] [] M 0).bind (qx_kn L xs (d + 1) 394 2348 2351 369 ls st x) := by
  have h1 : qx_act L xs (qx_rt 394) (2348, .invokestatic 335, 2351, 369, 4, 1193) ls (.ref z3 :: .int z2 :: .int z1 :: .ref z0 :: st) M = if 4 ≤ (.ref z3 :: .int z2 :: .int z1 :: .ref z0 :: st).length ∧ st.length ≤ 4 then some (.inr (.inr (.inr (369, [.ref z0, .int z1, .int z2, .ref z3], st)))) else none := rfl
  rw [if_pos ⟨by simp [List.length_cons]; try omega, hs⟩] at h1
  exact Rs_call c394_2348 h1 rfl
theorem c394_2351 : qx_code 394 2351 = some (2351, .istore 6, 2353, 0, 0, 0) := by decide +kernel
theorem s394_2351i {L : Nat} {xs : Nat → Int32} {d x : Nat} {M : qxM} {st : List Value} {a0 a1 a2 a3 a4 a6 a7 a8 : Option Value} {z : Int32} {y : Int32} : Rs L xs (d) 394 2351 [a0, a1, a2, a3, a4, some (.int y), a6, a7, a8] (.int z :: st) M x = Rs L xs (d) 394 2353 [a0, a1, a2, a3, a4, some (.int y), some (.int z), a7, a8] st M x := Rs_next c394_2351 rfl
theorem c394_2353 : qx_code 394 2353 = some (2353, .aload_n 2, 2354, 0, 0, 0) := by decide +kernel
theorem s394_2353 {L : Nat} {xs : Nat → Int32} {d x : Nat} {M : qxM} {st : List Value} {a0 a1 a3 a4 a5 a6 a7 a8 : Option Value} {z : Nat} : Rs L xs (d) 394 2353 [a0, a1, some (.ref z), a3, a4, a5, a6, a7, a8] st M x = Rs L xs (d) 394 2354 [a0, a1, some (.ref z), a3, a4, a5, a6, a7, a8] (.ref z :: st) M x := Rs_next c394_2353 rfl
theorem c394_2354 : qx_code 394 2354 = some (2354, .aload_n 0, 2355, 0, 0, 0) := by decide +kernel
theorem s394_2354 {L : Nat} {xs : Nat → Int32} {d x : Nat} {M : qxM} {st : List Value} {a1 a2 a3 a4 a5 a6 a7 a8 : Option Value} {z : Nat} : Rs L xs (d) 394 2354 [some (.ref z), a1, a2, a3, a4, a5, a6, a7, a8] st M x = Rs L xs (d) 394 2355 [some (.ref z), a1, a2, a3, a4, a5, a6, a7, a8] (.ref z :: st) M x := Rs_next c394_2354 rfl
theorem c394_2355 : qx_code 394 2355 = some (2355, .iload 5, 2357, 0, 0, 0) := by decide +kernel
theorem s394_2355 {L : Nat} {xs : Nat → Int32} {d x : Nat} {M : qxM} {st : List Value} {a0 a1 a2 a3 a4 a6 a7 a8 : Option Value} {z : Int32} : Rs L xs (d) 394 2355 [a0, a1, a2, a3, a4, some (.int z), a6, a7, a8] st M x = Rs L xs (d) 394 2357 [a0, a1, a2, a3, a4, some (.int z), a6, a7, a8] (.int z :: st) M x := Rs_next c394_2355 rfl
theorem c394_2357 : qx_code 394 2357 = some (2357, .iconst 1, 2358, 0, 0, 0) := by decide +kernel
theorem s394_2357 {L : Nat} {xs : Nat → Int32} {d x : Nat} {M : qxM} {st : List Value} {ls : qxL} : Rs L xs (d) 394 2357 ls st M x = Rs L xs (d) 394 2358 ls (.int (nI 1) :: st) M x := Rs_next c394_2357 rfl
theorem c394_2358 : qx_code 394 2358 = some (2358, .iadd, 2359, 0, 0, 0) := by decide +kernel
theorem s394_2358 {L : Nat} {xs : Nat → Int32} {d x : Nat} {M : qxM} {st : List Value} {ls : qxL} {z y : Int32} : Rs L xs (d) 394 2358 ls (.int y :: .int z :: st) M x = Rs L xs (d) 394 2359 ls (.int (z + y) :: st) M x := Rs_next c394_2358 rfl
theorem c394_2359 : qx_code 394 2359 = some (2359, .iaload, 2360, 0, 0, 0) := by decide +kernel
theorem s394_2359s {L : Nat} {xs : Nat → Int32} {d x : Nat} {M : qxM} {st : List Value} {ls : qxL} {j : Int32} (hj : qx_ib j L = true) : Rs L xs (d) 394 2359 ls (.int j :: .ref 1 :: st) M x = Rs L xs (d) 394 2360 ls (.int (xs j.toNatClampNeg) :: st) M x := Rs_unless (qx_ib_not hj) c394_2359 rfl
theorem c394_2360 : qx_code 394 2360 = some (2360, .aload_n 0, 2361, 0, 0, 0) := by decide +kernel
theorem s394_2360 {L : Nat} {xs : Nat → Int32} {d x : Nat} {M : qxM} {st : List Value} {a1 a2 a3 a4 a5 a6 a7 a8 : Option Value} {z : Nat} : Rs L xs (d) 394 2360 [some (.ref z), a1, a2, a3, a4, a5, a6, a7, a8] st M x = Rs L xs (d) 394 2361 [some (.ref z), a1, a2, a3, a4, a5, a6, a7, a8] (.ref z :: st) M x := Rs_next c394_2360 rfl
theorem c394_2361 : qx_code 394 2361 = some (2361, .iload 5, 2363, 0, 0, 0) := by decide +kernel
theorem s394_2361 {L : Nat} {xs : Nat → Int32} {d x : Nat} {M : qxM} {st : List Value} {a0 a1 a2 a3 a4 a6 a7 a8 : Option Value} {z : Int32} : Rs L xs (d) 394 2361 [a0, a1, a2, a3, a4, some (.int z), a6, a7, a8] st M x = Rs L xs (d) 394 2363 [a0, a1, a2, a3, a4, some (.int z), a6, a7, a8] (.int z :: st) M x := Rs_next c394_2361 rfl
theorem c394_2363 : qx_code 394 2363 = some (2363, .iconst 2, 2364, 0, 0, 0) := by decide +kernel
theorem s394_2363 {L : Nat} {xs : Nat → Int32} {d x : Nat} {M : qxM} {st : List Value} {ls : qxL} : Rs L xs (d) 394 2363 ls st M x = Rs L xs (d) 394 2364 ls (.int (nI 2) :: st) M x := Rs_next c394_2363 rfl
theorem c394_2364 : qx_code 394 2364 = some (2364, .iadd, 2365, 0, 0, 0) := by decide +kernel
theorem s394_2364 {L : Nat} {xs : Nat → Int32} {d x : Nat} {M : qxM} {st : List Value} {ls : qxL} {z y : Int32} : Rs L xs (d) 394 2364 ls (.int y :: .int z :: st) M x = Rs L xs (d) 394 2365 ls (.int (z + y) :: st) M x := Rs_next c394_2364 rfl
theorem c394_2365 : qx_code 394 2365 = some (2365, .iaload, 2366, 0, 0, 0) := by decide +kernel
theorem s394_2365s {L : Nat} {xs : Nat → Int32} {d x : Nat} {M : qxM} {st : List Value} {ls : qxL} {j : Int32} (hj : qx_ib j L = true) : Rs L xs (d) 394 2365 ls (.int j :: .ref 1 :: st) M x = Rs L xs (d) 394 2366 ls (.int (xs j.toNatClampNeg) :: st) M x := Rs_unless (qx_ib_not hj) c394_2365 rfl
theorem c394_2366 : qx_code 394 2366 = some (2366, .invokevirtual 337, 2369, 301, 3, 2046) := by decide +kernel
theorem s394_2366 {L : Nat} {xs : Nat → Int32} {d x : Nat} {M : qxM} {st : List Value} {ls : qxL} {t : Nat} {z0 : Int32} {z1 : Int32} (hk : qx_kd t = 18) (hs : st.length ≤ 4) : Rs L xs (d + 1) 394 2366 ls (.int z1 :: .int z0 :: .ref t :: st) M x = (Rs L xs d 301 0 [some (.ref t), some (.int z0), some (.int z1)] [] M 0).bind (qx_kn L xs (d + 1) 394 2366 2369 301 ls st x) := by
  have h1 : qx_act L xs (qx_rt 394) (2366, .invokevirtual 337, 2369, 301, 3, 2046) ls (.int z1 :: .int z0 :: .ref t :: st) M = if 3 ≤ (.int z1 :: .int z0 :: .ref t :: st).length ∧ st.length ≤ 4 then some (.inr (.inr (.inr (301, [.ref t, .int z0, .int z1], st)))) else none := rfl
  rw [if_pos ⟨by simp [List.length_cons]; try omega, hs⟩] at h1
  have h2 := qx_kd_obj (k := 8) (by decide) hk
  exact Rs_call c394_2366 h1 (by rw [show qx_args 301 [.ref t, .int z0, .int z1] = decide (qx_sh t = some (.inl 8)) from rfl]; exact decide_eq_true h2)
theorem c394_2369 : qx_code 394 2369 = some (2369, .istore 7, 2371, 0, 0, 0) := by decide +kernel
theorem s394_2369i {L : Nat} {xs : Nat → Int32} {d x : Nat} {M : qxM} {st : List Value} {a0 a1 a2 a3 a4 a5 a7 a8 : Option Value} {z : Int32} {y : Int32} : Rs L xs (d) 394 2369 [a0, a1, a2, a3, a4, a5, some (.int y), a7, a8] (.int z :: st) M x = Rs L xs (d) 394 2371 [a0, a1, a2, a3, a4, a5, some (.int y), some (.int z), a8] st M x := Rs_next c394_2369 rfl
theorem c394_2371 : qx_code 394 2371 = some (2371, .aload_n 2, 2372, 0, 0, 0) := by decide +kernel
theorem s394_2371 {L : Nat} {xs : Nat → Int32} {d x : Nat} {M : qxM} {st : List Value} {a0 a1 a3 a4 a5 a6 a7 a8 : Option Value} {z : Nat} : Rs L xs (d) 394 2371 [a0, a1, some (.ref z), a3, a4, a5, a6, a7, a8] st M x = Rs L xs (d) 394 2372 [a0, a1, some (.ref z), a3, a4, a5, a6, a7, a8] (.ref z :: st) M x := Rs_next c394_2371 rfl
theorem c394_2372 : qx_code 394 2372 = some (2372, .invokevirtual 218, 2375, 177, 1, 1613) := by decide +kernel
theorem s394_2372 {L : Nat} {xs : Nat → Int32} {d x : Nat} {M : qxM} {st : List Value} {ls : qxL} {t : Nat} (hk : qx_kd t = 18) (hs : st.length ≤ 4) : Rs L xs (d + 1) 394 2372 ls (.ref t :: st) M x = (Rs L xs d 177 0 [some (.ref t)] [] M 0).bind (qx_kn L xs (d + 1) 394 2372 2375 177 ls st x) := by
  have h1 : qx_act L xs (qx_rt 394) (2372, .invokevirtual 218, 2375, 177, 1, 1613) ls (.ref t :: st) M = if 1 ≤ (.ref t :: st).length ∧ st.length ≤ 4 then some (.inr (.inr (.inr (177, [.ref t], st)))) else none := rfl
  rw [if_pos ⟨by simp [List.length_cons]; try omega, hs⟩] at h1
  have h2 := qx_kd_obj (k := 8) (by decide) hk
  exact Rs_call c394_2372 h1 (by rw [show qx_args 177 [.ref t] = decide (qx_sh t = some (.inl 8)) from rfl]; exact decide_eq_true h2)
theorem c394_2375 : qx_code 394 2375 = some (2375, .iload 6, 2377, 0, 0, 0) := by decide +kernel
theorem s394_2375 {L : Nat} {xs : Nat → Int32} {d x : Nat} {M : qxM} {st : List Value} {a0 a1 a2 a3 a4 a5 a7 a8 : Option Value} {z : Int32} : Rs L xs (d) 394 2375 [a0, a1, a2, a3, a4, a5, some (.int z), a7, a8] st M x = Rs L xs (d) 394 2377 [a0, a1, a2, a3, a4, a5, some (.int z), a7, a8] (.int z :: st) M x := Rs_next c394_2375 rfl
theorem c394_2377 : qx_code 394 2377 = some (2377, .if_icmp .eq 5, 2380, 2382, 0, 0) := by decide +kernel
theorem s394_2377 {L : Nat} {xs : Nat → Int32} {d x : Nat} {M : qxM} {st : List Value} {ls : qxL} {z y : Int32} : Rs L xs (d) 394 2377 ls (.int y :: .int z :: st) M x = if z = y then Rs L xs (d) 394 2382 ls st M x else Rs L xs (d) 394 2380 ls st M x := Rs_ite c394_2377 rfl
theorem c394_2382 : qx_code 394 2382 = some (2382, .iload 6, 2384, 0, 0, 0) := by decide +kernel
theorem s394_2382 {L : Nat} {xs : Nat → Int32} {d x : Nat} {M : qxM} {st : List Value} {a0 a1 a2 a3 a4 a5 a7 a8 : Option Value} {z : Int32} : Rs L xs (d) 394 2382 [a0, a1, a2, a3, a4, a5, some (.int z), a7, a8] st M x = Rs L xs (d) 394 2384 [a0, a1, a2, a3, a4, a5, some (.int z), a7, a8] (.int z :: st) M x := Rs_next c394_2382 rfl
theorem c394_2384 : qx_code 394 2384 = some (2384, .ifCond .ne 15, 2387, 2399, 0, 0) := by decide +kernel
theorem s394_2384 {L : Nat} {xs : Nat → Int32} {d x : Nat} {M : qxM} {st : List Value} {ls : qxL} {z : Int32} : Rs L xs (d) 394 2384 ls (.int z :: st) M x = if z = 0 then Rs L xs (d) 394 2387 ls st M x else Rs L xs (d) 394 2399 ls st M x := Rs_ite c394_2384 rfl
theorem c394_2387 : qx_code 394 2387 = some (2387, .aload_n 3, 2388, 0, 0, 0) := by decide +kernel
theorem s394_2387 {L : Nat} {xs : Nat → Int32} {d x : Nat} {M : qxM} {st : List Value} {a0 a1 a2 a4 a5 a6 a7 a8 : Option Value} {z : Nat} : Rs L xs (d) 394 2387 [a0, a1, a2, some (.ref z), a4, a5, a6, a7, a8] st M x = Rs L xs (d) 394 2388 [a0, a1, a2, some (.ref z), a4, a5, a6, a7, a8] (.ref z :: st) M x := Rs_next c394_2387 rfl
theorem c394_2388 : qx_code 394 2388 = some (2388, .iconst 0, 2389, 0, 0, 0) := by decide +kernel
theorem s394_2388 {L : Nat} {xs : Nat → Int32} {d x : Nat} {M : qxM} {st : List Value} {ls : qxL} : Rs L xs (d) 394 2388 ls st M x = Rs L xs (d) 394 2389 ls (.int (nI 0) :: st) M x := Rs_next c394_2388 rfl
theorem c394_2389 : qx_code 394 2389 = some (2389, .laload, 2390, 0, 0, 0) := by decide +kernel
theorem s394_2389 {L : Nat} {xs : Nat → Int32} {d x : Nat} {M : qxM} {st : List Value} {ls : qxL} {t : Nat} {j : Int32} (hk : qx_kd t = 4) (hj : qx_ib j (qx_ln t) = true) : Rs L xs (d) 394 2389 ls (.int j :: .ref t :: st) M x = Rs L xs (d) 394 2390 ls (.long (M.2.1 j.toNatClampNeg) :: st) M x := by
  have h1 := qx_kd_row (k := 4) (by decide) hk
  exact Rs_unless (qx_ib_not hj) c394_2389 (by unfold qx_act; dsimp only; rw [h1]; rfl)
theorem c394_2390 : qx_code 394 2390 = some (2390, .iload 7, 2392, 0, 0, 0) := by decide +kernel
theorem s394_2390 {L : Nat} {xs : Nat → Int32} {d x : Nat} {M : qxM} {st : List Value} {a0 a1 a2 a3 a4 a5 a6 a8 : Option Value} {z : Int32} : Rs L xs (d) 394 2390 [a0, a1, a2, a3, a4, a5, a6, some (.int z), a8] st M x = Rs L xs (d) 394 2392 [a0, a1, a2, a3, a4, a5, a6, some (.int z), a8] (.int z :: st) M x := Rs_next c394_2390 rfl
theorem c394_2392 : qx_code 394 2392 = some (2392, .i2l, 2393, 0, 0, 0) := by decide +kernel
theorem s394_2392 {L : Nat} {xs : Nat → Int32} {d x : Nat} {M : qxM} {st : List Value} {ls : qxL} {z : Int32} : Rs L xs (d) 394 2392 ls (.int z :: st) M x = Rs L xs (d) 394 2393 ls (.long z.toInt64 :: st) M x := Rs_next c394_2392 rfl
theorem c394_2393 : qx_code 394 2393 = some (2393, .lcmp, 2394, 0, 0, 0) := by decide +kernel
theorem s394_2393 {L : Nat} {xs : Nat → Int32} {d x : Nat} {M : qxM} {st : List Value} {ls : qxL} {z y : Int64} : Rs L xs (d) 394 2393 ls (.long y :: .long z :: st) M x = Rs L xs (d) 394 2394 ls (.int (lg_cmp z y) :: st) M x := Rs_next c394_2393 rfl
theorem c394_2394 : qx_code 394 2394 = some (2394, .ifCond .eq 5, 2397, 2399, 0, 0) := by decide +kernel
theorem s394_2394 {L : Nat} {xs : Nat → Int32} {d x : Nat} {M : qxM} {st : List Value} {ls : qxL} {z : Int32} : Rs L xs (d) 394 2394 ls (.int z :: st) M x = if z = 0 then Rs L xs (d) 394 2399 ls st M x else Rs L xs (d) 394 2397 ls st M x := Rs_ite c394_2394 rfl
theorem c394_2399 : qx_code 394 2399 = some (2399, .goto 1347, 2402, 3746, 0, 0) := by decide +kernel
theorem s394_2399 {L : Nat} {xs : Nat → Int32} {d x : Nat} {M : qxM} {st : List Value} {ls : qxL} : Rs L xs (d) 394 2399 ls st M x = Rs L xs (d) 394 3746 ls st M x := Rs_next c394_2399 rfl
theorem c394_2402 : qx_code 394 2402 = some (2402, .aload_n 1, 2403, 0, 0, 0) := by decide +kernel
theorem s394_2402 {L : Nat} {xs : Nat → Int32} {d x : Nat} {M : qxM} {st : List Value} {a0 a2 a3 a4 a5 a6 a7 a8 : Option Value} {z : Nat} : Rs L xs (d) 394 2402 [a0, some (.ref z), a2, a3, a4, a5, a6, a7, a8] st M x = Rs L xs (d) 394 2403 [a0, some (.ref z), a2, a3, a4, a5, a6, a7, a8] (.ref z :: st) M x := Rs_next c394_2402 rfl
theorem c394_2403 : qx_code 394 2403 = some (2403, .aload_n 0, 2404, 0, 0, 0) := by decide +kernel
theorem s394_2403 {L : Nat} {xs : Nat → Int32} {d x : Nat} {M : qxM} {st : List Value} {a1 a2 a3 a4 a5 a6 a7 a8 : Option Value} {z : Nat} : Rs L xs (d) 394 2403 [some (.ref z), a1, a2, a3, a4, a5, a6, a7, a8] st M x = Rs L xs (d) 394 2404 [some (.ref z), a1, a2, a3, a4, a5, a6, a7, a8] (.ref z :: st) M x := Rs_next c394_2403 rfl
theorem c394_2404 : qx_code 394 2404 = some (2404, .iload 5, 2406, 0, 0, 0) := by decide +kernel
theorem s394_2404 {L : Nat} {xs : Nat → Int32} {d x : Nat} {M : qxM} {st : List Value} {a0 a1 a2 a3 a4 a6 a7 a8 : Option Value} {z : Int32} : Rs L xs (d) 394 2404 [a0, a1, a2, a3, a4, some (.int z), a6, a7, a8] st M x = Rs L xs (d) 394 2406 [a0, a1, a2, a3, a4, some (.int z), a6, a7, a8] (.int z :: st) M x := Rs_next c394_2404 rfl
theorem c394_2406 : qx_code 394 2406 = some (2406, .iconst 1, 2407, 0, 0, 0) := by decide +kernel
theorem s394_2406 {L : Nat} {xs : Nat → Int32} {d x : Nat} {M : qxM} {st : List Value} {ls : qxL} : Rs L xs (d) 394 2406 ls st M x = Rs L xs (d) 394 2407 ls (.int (nI 1) :: st) M x := Rs_next c394_2406 rfl
theorem c394_2407 : qx_code 394 2407 = some (2407, .iadd, 2408, 0, 0, 0) := by decide +kernel
theorem s394_2407 {L : Nat} {xs : Nat → Int32} {d x : Nat} {M : qxM} {st : List Value} {ls : qxL} {z y : Int32} : Rs L xs (d) 394 2407 ls (.int y :: .int z :: st) M x = Rs L xs (d) 394 2408 ls (.int (z + y) :: st) M x := Rs_next c394_2407 rfl
theorem c394_2408 : qx_code 394 2408 = some (2408, .iaload, 2409, 0, 0, 0) := by decide +kernel
theorem s394_2408s {L : Nat} {xs : Nat → Int32} {d x : Nat} {M : qxM} {st : List Value} {ls : qxL} {j : Int32} (hj : qx_ib j L = true) : Rs L xs (d) 394 2408 ls (.int j :: .ref 1 :: st) M x = Rs L xs (d) 394 2409 ls (.int (xs j.toNatClampNeg) :: st) M x := Rs_unless (qx_ib_not hj) c394_2408 rfl
theorem c394_2409 : qx_code 394 2409 = some (2409, .aload_n 3, 2410, 0, 0, 0) := by decide +kernel
theorem s394_2409 {L : Nat} {xs : Nat → Int32} {d x : Nat} {M : qxM} {st : List Value} {a0 a1 a2 a4 a5 a6 a7 a8 : Option Value} {z : Nat} : Rs L xs (d) 394 2409 [a0, a1, a2, some (.ref z), a4, a5, a6, a7, a8] st M x = Rs L xs (d) 394 2410 [a0, a1, a2, some (.ref z), a4, a5, a6, a7, a8] (.ref z :: st) M x := Rs_next c394_2409 rfl
theorem c394_2410 : qx_code 394 2410 = some (2410, .invokestatic 338, 2413, 370, 3, 1203) := by decide +kernel
theorem s394_2410 {L : Nat} {xs : Nat → Int32} {d x : Nat} {M : qxM} {st : List Value} {ls : qxL} {z0 : Nat} {z1 : Int32} {z2 : Nat} (hs : st.length ≤ 4) : Rs L xs (d + 1) 394 2410 ls (.ref z2 :: .int z1 :: .ref z0 :: st) M x = (Rs L xs d 370 0 [some (.ref z0), some (.int z1), some (.ref z2), none] [] M 0).bind (qx_kn L xs (d + 1) 394 2410 2413 370 ls st x) := by
  have h1 : qx_act L xs (qx_rt 394) (2410, .invokestatic 338, 2413, 370, 3, 1203) ls (.ref z2 :: .int z1 :: .ref z0 :: st) M = if 3 ≤ (.ref z2 :: .int z1 :: .ref z0 :: st).length ∧ st.length ≤ 4 then some (.inr (.inr (.inr (370, [.ref z0, .int z1, .ref z2], st)))) else none := rfl
  rw [if_pos ⟨by simp [List.length_cons]; try omega, hs⟩] at h1
  exact Rs_call c394_2410 h1 rfl
theorem c394_2413 : qx_code 394 2413 = some (2413, .istore 6, 2415, 0, 0, 0) := by decide +kernel
theorem s394_2413i {L : Nat} {xs : Nat → Int32} {d x : Nat} {M : qxM} {st : List Value} {a0 a1 a2 a3 a4 a6 a7 a8 : Option Value} {z : Int32} {y : Int32} : Rs L xs (d) 394 2413 [a0, a1, a2, a3, a4, some (.int y), a6, a7, a8] (.int z :: st) M x = Rs L xs (d) 394 2415 [a0, a1, a2, a3, a4, some (.int y), some (.int z), a7, a8] st M x := Rs_next c394_2413 rfl
theorem c394_2415 : qx_code 394 2415 = some (2415, .aload_n 2, 2416, 0, 0, 0) := by decide +kernel
theorem s394_2415 {L : Nat} {xs : Nat → Int32} {d x : Nat} {M : qxM} {st : List Value} {a0 a1 a3 a4 a5 a6 a7 a8 : Option Value} {z : Nat} : Rs L xs (d) 394 2415 [a0, a1, some (.ref z), a3, a4, a5, a6, a7, a8] st M x = Rs L xs (d) 394 2416 [a0, a1, some (.ref z), a3, a4, a5, a6, a7, a8] (.ref z :: st) M x := Rs_next c394_2415 rfl
theorem c394_2416 : qx_code 394 2416 = some (2416, .aload_n 0, 2417, 0, 0, 0) := by decide +kernel
theorem s394_2416 {L : Nat} {xs : Nat → Int32} {d x : Nat} {M : qxM} {st : List Value} {a1 a2 a3 a4 a5 a6 a7 a8 : Option Value} {z : Nat} : Rs L xs (d) 394 2416 [some (.ref z), a1, a2, a3, a4, a5, a6, a7, a8] st M x = Rs L xs (d) 394 2417 [some (.ref z), a1, a2, a3, a4, a5, a6, a7, a8] (.ref z :: st) M x := Rs_next c394_2416 rfl
theorem c394_2417 : qx_code 394 2417 = some (2417, .iload 5, 2419, 0, 0, 0) := by decide +kernel
theorem s394_2417 {L : Nat} {xs : Nat → Int32} {d x : Nat} {M : qxM} {st : List Value} {a0 a1 a2 a3 a4 a6 a7 a8 : Option Value} {z : Int32} : Rs L xs (d) 394 2417 [a0, a1, a2, a3, a4, some (.int z), a6, a7, a8] st M x = Rs L xs (d) 394 2419 [a0, a1, a2, a3, a4, some (.int z), a6, a7, a8] (.int z :: st) M x := Rs_next c394_2417 rfl
theorem c394_2419 : qx_code 394 2419 = some (2419, .iconst 1, 2420, 0, 0, 0) := by decide +kernel
theorem s394_2419 {L : Nat} {xs : Nat → Int32} {d x : Nat} {M : qxM} {st : List Value} {ls : qxL} : Rs L xs (d) 394 2419 ls st M x = Rs L xs (d) 394 2420 ls (.int (nI 1) :: st) M x := Rs_next c394_2419 rfl
theorem c394_2420 : qx_code 394 2420 = some (2420, .iadd, 2421, 0, 0, 0) := by decide +kernel
theorem s394_2420 {L : Nat} {xs : Nat → Int32} {d x : Nat} {M : qxM} {st : List Value} {ls : qxL} {z y : Int32} : Rs L xs (d) 394 2420 ls (.int y :: .int z :: st) M x = Rs L xs (d) 394 2421 ls (.int (z + y) :: st) M x := Rs_next c394_2420 rfl
theorem c394_2421 : qx_code 394 2421 = some (2421, .iaload, 2422, 0, 0, 0) := by decide +kernel
theorem s394_2421s {L : Nat} {xs : Nat → Int32} {d x : Nat} {M : qxM} {st : List Value} {ls : qxL} {j : Int32} (hj : qx_ib j L = true) : Rs L xs (d) 394 2421 ls (.int j :: .ref 1 :: st) M x = Rs L xs (d) 394 2422 ls (.int (xs j.toNatClampNeg) :: st) M x := Rs_unless (qx_ib_not hj) c394_2421 rfl
theorem c394_2422 : qx_code 394 2422 = some (2422, .invokevirtual 340, 2425, 304, 2, 2050) := by decide +kernel
theorem s394_2422 {L : Nat} {xs : Nat → Int32} {d x : Nat} {M : qxM} {st : List Value} {ls : qxL} {t : Nat} {z0 : Int32} (hk : qx_kd t = 18) (hs : st.length ≤ 4) : Rs L xs (d + 1) 394 2422 ls (.int z0 :: .ref t :: st) M x = (Rs L xs d 304 0 [some (.ref t), some (.int z0)] [] M 0).bind (qx_kn L xs (d + 1) 394 2422 2425 304 ls st x) := by
  have h1 : qx_act L xs (qx_rt 394) (2422, .invokevirtual 340, 2425, 304, 2, 2050) ls (.int z0 :: .ref t :: st) M = if 2 ≤ (.int z0 :: .ref t :: st).length ∧ st.length ≤ 4 then some (.inr (.inr (.inr (304, [.ref t, .int z0], st)))) else none := rfl
  rw [if_pos ⟨by simp [List.length_cons]; try omega, hs⟩] at h1
  have h2 := qx_kd_obj (k := 8) (by decide) hk
  exact Rs_call c394_2422 h1 (by rw [show qx_args 304 [.ref t, .int z0] = decide (qx_sh t = some (.inl 8)) from rfl]; exact decide_eq_true h2)
theorem c394_2425 : qx_code 394 2425 = some (2425, .istore 7, 2427, 0, 0, 0) := by decide +kernel
theorem s394_2425i {L : Nat} {xs : Nat → Int32} {d x : Nat} {M : qxM} {st : List Value} {a0 a1 a2 a3 a4 a5 a7 a8 : Option Value} {z : Int32} {y : Int32} : Rs L xs (d) 394 2425 [a0, a1, a2, a3, a4, a5, some (.int y), a7, a8] (.int z :: st) M x = Rs L xs (d) 394 2427 [a0, a1, a2, a3, a4, a5, some (.int y), some (.int z), a8] st M x := Rs_next c394_2425 rfl
theorem c394_2427 : qx_code 394 2427 = some (2427, .aload_n 2, 2428, 0, 0, 0) := by decide +kernel
theorem s394_2427 {L : Nat} {xs : Nat → Int32} {d x : Nat} {M : qxM} {st : List Value} {a0 a1 a3 a4 a5 a6 a7 a8 : Option Value} {z : Nat} : Rs L xs (d) 394 2427 [a0, a1, some (.ref z), a3, a4, a5, a6, a7, a8] st M x = Rs L xs (d) 394 2428 [a0, a1, some (.ref z), a3, a4, a5, a6, a7, a8] (.ref z :: st) M x := Rs_next c394_2427 rfl
theorem c394_2428 : qx_code 394 2428 = some (2428, .invokevirtual 218, 2431, 177, 1, 1613) := by decide +kernel
theorem s394_2428 {L : Nat} {xs : Nat → Int32} {d x : Nat} {M : qxM} {st : List Value} {ls : qxL} {t : Nat} (hk : qx_kd t = 18) (hs : st.length ≤ 4) : Rs L xs (d + 1) 394 2428 ls (.ref t :: st) M x = (Rs L xs d 177 0 [some (.ref t)] [] M 0).bind (qx_kn L xs (d + 1) 394 2428 2431 177 ls st x) := by
  have h1 : qx_act L xs (qx_rt 394) (2428, .invokevirtual 218, 2431, 177, 1, 1613) ls (.ref t :: st) M = if 1 ≤ (.ref t :: st).length ∧ st.length ≤ 4 then some (.inr (.inr (.inr (177, [.ref t], st)))) else none := rfl
  rw [if_pos ⟨by simp [List.length_cons]; try omega, hs⟩] at h1
  have h2 := qx_kd_obj (k := 8) (by decide) hk
  exact Rs_call c394_2428 h1 (by rw [show qx_args 177 [.ref t] = decide (qx_sh t = some (.inl 8)) from rfl]; exact decide_eq_true h2)
theorem c394_2431 : qx_code 394 2431 = some (2431, .iload 6, 2433, 0, 0, 0) := by decide +kernel
theorem s394_2431 {L : Nat} {xs : Nat → Int32} {d x : Nat} {M : qxM} {st : List Value} {a0 a1 a2 a3 a4 a5 a7 a8 : Option Value} {z : Int32} : Rs L xs (d) 394 2431 [a0, a1, a2, a3, a4, a5, some (.int z), a7, a8] st M x = Rs L xs (d) 394 2433 [a0, a1, a2, a3, a4, a5, some (.int z), a7, a8] (.int z :: st) M x := Rs_next c394_2431 rfl
theorem c394_2433 : qx_code 394 2433 = some (2433, .if_icmp .eq 5, 2436, 2438, 0, 0) := by decide +kernel
theorem s394_2433 {L : Nat} {xs : Nat → Int32} {d x : Nat} {M : qxM} {st : List Value} {ls : qxL} {z y : Int32} : Rs L xs (d) 394 2433 ls (.int y :: .int z :: st) M x = if z = y then Rs L xs (d) 394 2438 ls st M x else Rs L xs (d) 394 2436 ls st M x := Rs_ite c394_2433 rfl
theorem c394_2438 : qx_code 394 2438 = some (2438, .iload 6, 2440, 0, 0, 0) := by decide +kernel
theorem s394_2438 {L : Nat} {xs : Nat → Int32} {d x : Nat} {M : qxM} {st : List Value} {a0 a1 a2 a3 a4 a5 a7 a8 : Option Value} {z : Int32} : Rs L xs (d) 394 2438 [a0, a1, a2, a3, a4, a5, some (.int z), a7, a8] st M x = Rs L xs (d) 394 2440 [a0, a1, a2, a3, a4, a5, some (.int z), a7, a8] (.int z :: st) M x := Rs_next c394_2438 rfl
theorem c394_2440 : qx_code 394 2440 = some (2440, .ifCond .ne 15, 2443, 2455, 0, 0) := by decide +kernel
theorem s394_2440 {L : Nat} {xs : Nat → Int32} {d x : Nat} {M : qxM} {st : List Value} {ls : qxL} {z : Int32} : Rs L xs (d) 394 2440 ls (.int z :: st) M x = if z = 0 then Rs L xs (d) 394 2443 ls st M x else Rs L xs (d) 394 2455 ls st M x := Rs_ite c394_2440 rfl
theorem c394_2443 : qx_code 394 2443 = some (2443, .aload_n 3, 2444, 0, 0, 0) := by decide +kernel
theorem s394_2443 {L : Nat} {xs : Nat → Int32} {d x : Nat} {M : qxM} {st : List Value} {a0 a1 a2 a4 a5 a6 a7 a8 : Option Value} {z : Nat} : Rs L xs (d) 394 2443 [a0, a1, a2, some (.ref z), a4, a5, a6, a7, a8] st M x = Rs L xs (d) 394 2444 [a0, a1, a2, some (.ref z), a4, a5, a6, a7, a8] (.ref z :: st) M x := Rs_next c394_2443 rfl
theorem c394_2444 : qx_code 394 2444 = some (2444, .iconst 0, 2445, 0, 0, 0) := by decide +kernel
theorem s394_2444 {L : Nat} {xs : Nat → Int32} {d x : Nat} {M : qxM} {st : List Value} {ls : qxL} : Rs L xs (d) 394 2444 ls st M x = Rs L xs (d) 394 2445 ls (.int (nI 0) :: st) M x := Rs_next c394_2444 rfl
theorem c394_2445 : qx_code 394 2445 = some (2445, .laload, 2446, 0, 0, 0) := by decide +kernel
theorem s394_2445 {L : Nat} {xs : Nat → Int32} {d x : Nat} {M : qxM} {st : List Value} {ls : qxL} {t : Nat} {j : Int32} (hk : qx_kd t = 4) (hj : qx_ib j (qx_ln t) = true) : Rs L xs (d) 394 2445 ls (.int j :: .ref t :: st) M x = Rs L xs (d) 394 2446 ls (.long (M.2.1 j.toNatClampNeg) :: st) M x := by
  have h1 := qx_kd_row (k := 4) (by decide) hk
  exact Rs_unless (qx_ib_not hj) c394_2445 (by unfold qx_act; dsimp only; rw [h1]; rfl)
theorem c394_2446 : qx_code 394 2446 = some (2446, .iload 7, 2448, 0, 0, 0) := by decide +kernel
theorem s394_2446 {L : Nat} {xs : Nat → Int32} {d x : Nat} {M : qxM} {st : List Value} {a0 a1 a2 a3 a4 a5 a6 a8 : Option Value} {z : Int32} : Rs L xs (d) 394 2446 [a0, a1, a2, a3, a4, a5, a6, some (.int z), a8] st M x = Rs L xs (d) 394 2448 [a0, a1, a2, a3, a4, a5, a6, some (.int z), a8] (.int z :: st) M x := Rs_next c394_2446 rfl
theorem c394_2448 : qx_code 394 2448 = some (2448, .i2l, 2449, 0, 0, 0) := by decide +kernel
theorem s394_2448 {L : Nat} {xs : Nat → Int32} {d x : Nat} {M : qxM} {st : List Value} {ls : qxL} {z : Int32} : Rs L xs (d) 394 2448 ls (.int z :: st) M x = Rs L xs (d) 394 2449 ls (.long z.toInt64 :: st) M x := Rs_next c394_2448 rfl
theorem c394_2449 : qx_code 394 2449 = some (2449, .lcmp, 2450, 0, 0, 0) := by decide +kernel
theorem s394_2449 {L : Nat} {xs : Nat → Int32} {d x : Nat} {M : qxM} {st : List Value} {ls : qxL} {z y : Int64} : Rs L xs (d) 394 2449 ls (.long y :: .long z :: st) M x = Rs L xs (d) 394 2450 ls (.int (lg_cmp z y) :: st) M x := Rs_next c394_2449 rfl
theorem c394_2450 : qx_code 394 2450 = some (2450, .ifCond .eq 5, 2453, 2455, 0, 0) := by decide +kernel
theorem s394_2450 {L : Nat} {xs : Nat → Int32} {d x : Nat} {M : qxM} {st : List Value} {ls : qxL} {z : Int32} : Rs L xs (d) 394 2450 ls (.int z :: st) M x = if z = 0 then Rs L xs (d) 394 2455 ls st M x else Rs L xs (d) 394 2453 ls st M x := Rs_ite c394_2450 rfl
theorem c394_2455 : qx_code 394 2455 = some (2455, .goto 1291, 2458, 3746, 0, 0) := by decide +kernel
theorem s394_2455 {L : Nat} {xs : Nat → Int32} {d x : Nat} {M : qxM} {st : List Value} {ls : qxL} : Rs L xs (d) 394 2455 ls st M x = Rs L xs (d) 394 3746 ls st M x := Rs_next c394_2455 rfl
theorem c394_2458 : qx_code 394 2458 = some (2458, .aload_n 1, 2459, 0, 0, 0) := by decide +kernel
theorem s394_2458 {L : Nat} {xs : Nat → Int32} {d x : Nat} {M : qxM} {st : List Value} {a0 a2 a3 a4 a5 a6 a7 a8 : Option Value} {z : Nat} : Rs L xs (d) 394 2458 [a0, some (.ref z), a2, a3, a4, a5, a6, a7, a8] st M x = Rs L xs (d) 394 2459 [a0, some (.ref z), a2, a3, a4, a5, a6, a7, a8] (.ref z :: st) M x := Rs_next c394_2458 rfl
theorem c394_2459 : qx_code 394 2459 = some (2459, .aload_n 3, 2460, 0, 0, 0) := by decide +kernel
theorem s394_2459 {L : Nat} {xs : Nat → Int32} {d x : Nat} {M : qxM} {st : List Value} {a0 a1 a2 a4 a5 a6 a7 a8 : Option Value} {z : Nat} : Rs L xs (d) 394 2459 [a0, a1, a2, some (.ref z), a4, a5, a6, a7, a8] st M x = Rs L xs (d) 394 2460 [a0, a1, a2, some (.ref z), a4, a5, a6, a7, a8] (.ref z :: st) M x := Rs_next c394_2459 rfl
theorem c394_2460 : qx_code 394 2460 = some (2460, .invokestatic 341, 2463, 371, 2, 1210) := by decide +kernel
theorem s394_2460 {L : Nat} {xs : Nat → Int32} {d x : Nat} {M : qxM} {st : List Value} {ls : qxL} {z0 : Nat} {z1 : Nat} (hs : st.length ≤ 4) : Rs L xs (d + 1) 394 2460 ls (.ref z1 :: .ref z0 :: st) M x = (Rs L xs d 371 0 [some (.ref z0), some (.ref z1), none] [] M 0).bind (qx_kn L xs (d + 1) 394 2460 2463 371 ls st x) := by
  have h1 : qx_act L xs (qx_rt 394) (2460, .invokestatic 341, 2463, 371, 2, 1210) ls (.ref z1 :: .ref z0 :: st) M = if 2 ≤ (.ref z1 :: .ref z0 :: st).length ∧ st.length ≤ 4 then some (.inr (.inr (.inr (371, [.ref z0, .ref z1], st)))) else none := rfl
  rw [if_pos ⟨by simp [List.length_cons]; try omega, hs⟩] at h1
  exact Rs_call c394_2460 h1 rfl
theorem c394_2463 : qx_code 394 2463 = some (2463, .istore 6, 2465, 0, 0, 0) := by decide +kernel
theorem s394_2463i {L : Nat} {xs : Nat → Int32} {d x : Nat} {M : qxM} {st : List Value} {a0 a1 a2 a3 a4 a6 a7 a8 : Option Value} {z : Int32} {y : Int32} : Rs L xs (d) 394 2463 [a0, a1, a2, a3, a4, some (.int y), a6, a7, a8] (.int z :: st) M x = Rs L xs (d) 394 2465 [a0, a1, a2, a3, a4, some (.int y), some (.int z), a7, a8] st M x := Rs_next c394_2463 rfl
theorem c394_2465 : qx_code 394 2465 = some (2465, .aload_n 2, 2466, 0, 0, 0) := by decide +kernel
theorem s394_2465 {L : Nat} {xs : Nat → Int32} {d x : Nat} {M : qxM} {st : List Value} {a0 a1 a3 a4 a5 a6 a7 a8 : Option Value} {z : Nat} : Rs L xs (d) 394 2465 [a0, a1, some (.ref z), a3, a4, a5, a6, a7, a8] st M x = Rs L xs (d) 394 2466 [a0, a1, some (.ref z), a3, a4, a5, a6, a7, a8] (.ref z :: st) M x := Rs_next c394_2465 rfl
theorem c394_2466 : qx_code 394 2466 = some (2466, .invokevirtual 343, 2469, 305, 1, 2061) := by decide +kernel
theorem s394_2466 {L : Nat} {xs : Nat → Int32} {d x : Nat} {M : qxM} {st : List Value} {ls : qxL} {t : Nat} (hk : qx_kd t = 18) (hs : st.length ≤ 4) : Rs L xs (d + 1) 394 2466 ls (.ref t :: st) M x = (Rs L xs d 305 0 [some (.ref t), none, none, none, none] [] M 0).bind (qx_kn L xs (d + 1) 394 2466 2469 305 ls st x) := by
  have h1 : qx_act L xs (qx_rt 394) (2466, .invokevirtual 343, 2469, 305, 1, 2061) ls (.ref t :: st) M = if 1 ≤ (.ref t :: st).length ∧ st.length ≤ 4 then some (.inr (.inr (.inr (305, [.ref t], st)))) else none := rfl
  rw [if_pos ⟨by simp [List.length_cons]; try omega, hs⟩] at h1
  have h2 := qx_kd_obj (k := 8) (by decide) hk
  exact Rs_call c394_2466 h1 (by rw [show qx_args 305 [.ref t] = decide (qx_sh t = some (.inl 8)) from rfl]; exact decide_eq_true h2)
theorem c394_2469 : qx_code 394 2469 = some (2469, .istore 7, 2471, 0, 0, 0) := by decide +kernel
theorem s394_2469i {L : Nat} {xs : Nat → Int32} {d x : Nat} {M : qxM} {st : List Value} {a0 a1 a2 a3 a4 a5 a7 a8 : Option Value} {z : Int32} {y : Int32} : Rs L xs (d) 394 2469 [a0, a1, a2, a3, a4, a5, some (.int y), a7, a8] (.int z :: st) M x = Rs L xs (d) 394 2471 [a0, a1, a2, a3, a4, a5, some (.int y), some (.int z), a8] st M x := Rs_next c394_2469 rfl
theorem c394_2471 : qx_code 394 2471 = some (2471, .aload_n 2, 2472, 0, 0, 0) := by decide +kernel
theorem s394_2471 {L : Nat} {xs : Nat → Int32} {d x : Nat} {M : qxM} {st : List Value} {a0 a1 a3 a4 a5 a6 a7 a8 : Option Value} {z : Nat} : Rs L xs (d) 394 2471 [a0, a1, some (.ref z), a3, a4, a5, a6, a7, a8] st M x = Rs L xs (d) 394 2472 [a0, a1, some (.ref z), a3, a4, a5, a6, a7, a8] (.ref z :: st) M x := Rs_next c394_2471 rfl
theorem c394_2472 : qx_code 394 2472 = some (2472, .invokevirtual 218, 2475, 177, 1, 1613) := by decide +kernel
theorem s394_2472 {L : Nat} {xs : Nat → Int32} {d x : Nat} {M : qxM} {st : List Value} {ls : qxL} {t : Nat} (hk : qx_kd t = 18) (hs : st.length ≤ 4) : Rs L xs (d + 1) 394 2472 ls (.ref t :: st) M x = (Rs L xs d 177 0 [some (.ref t)] [] M 0).bind (qx_kn L xs (d + 1) 394 2472 2475 177 ls st x) := by
  have h1 : qx_act L xs (qx_rt 394) (2472, .invokevirtual 218, 2475, 177, 1, 1613) ls (.ref t :: st) M = if 1 ≤ (.ref t :: st).length ∧ st.length ≤ 4 then some (.inr (.inr (.inr (177, [.ref t], st)))) else none := rfl
  rw [if_pos ⟨by simp [List.length_cons]; try omega, hs⟩] at h1
  have h2 := qx_kd_obj (k := 8) (by decide) hk
  exact Rs_call c394_2472 h1 (by rw [show qx_args 177 [.ref t] = decide (qx_sh t = some (.inl 8)) from rfl]; exact decide_eq_true h2)
theorem c394_2475 : qx_code 394 2475 = some (2475, .iload 6, 2477, 0, 0, 0) := by decide +kernel
theorem s394_2475 {L : Nat} {xs : Nat → Int32} {d x : Nat} {M : qxM} {st : List Value} {a0 a1 a2 a3 a4 a5 a7 a8 : Option Value} {z : Int32} : Rs L xs (d) 394 2475 [a0, a1, a2, a3, a4, a5, some (.int z), a7, a8] st M x = Rs L xs (d) 394 2477 [a0, a1, a2, a3, a4, a5, some (.int z), a7, a8] (.int z :: st) M x := Rs_next c394_2475 rfl
theorem c394_2477 : qx_code 394 2477 = some (2477, .if_icmp .eq 5, 2480, 2482, 0, 0) := by decide +kernel
theorem s394_2477 {L : Nat} {xs : Nat → Int32} {d x : Nat} {M : qxM} {st : List Value} {ls : qxL} {z y : Int32} : Rs L xs (d) 394 2477 ls (.int y :: .int z :: st) M x = if z = y then Rs L xs (d) 394 2482 ls st M x else Rs L xs (d) 394 2480 ls st M x := Rs_ite c394_2477 rfl
theorem c394_2482 : qx_code 394 2482 = some (2482, .iload 6, 2484, 0, 0, 0) := by decide +kernel
theorem s394_2482 {L : Nat} {xs : Nat → Int32} {d x : Nat} {M : qxM} {st : List Value} {a0 a1 a2 a3 a4 a5 a7 a8 : Option Value} {z : Int32} : Rs L xs (d) 394 2482 [a0, a1, a2, a3, a4, a5, some (.int z), a7, a8] st M x = Rs L xs (d) 394 2484 [a0, a1, a2, a3, a4, a5, some (.int z), a7, a8] (.int z :: st) M x := Rs_next c394_2482 rfl
theorem c394_2484 : qx_code 394 2484 = some (2484, .ifCond .ne 15, 2487, 2499, 0, 0) := by decide +kernel
theorem s394_2484 {L : Nat} {xs : Nat → Int32} {d x : Nat} {M : qxM} {st : List Value} {ls : qxL} {z : Int32} : Rs L xs (d) 394 2484 ls (.int z :: st) M x = if z = 0 then Rs L xs (d) 394 2487 ls st M x else Rs L xs (d) 394 2499 ls st M x := Rs_ite c394_2484 rfl
theorem c394_2487 : qx_code 394 2487 = some (2487, .aload_n 3, 2488, 0, 0, 0) := by decide +kernel
theorem s394_2487 {L : Nat} {xs : Nat → Int32} {d x : Nat} {M : qxM} {st : List Value} {a0 a1 a2 a4 a5 a6 a7 a8 : Option Value} {z : Nat} : Rs L xs (d) 394 2487 [a0, a1, a2, some (.ref z), a4, a5, a6, a7, a8] st M x = Rs L xs (d) 394 2488 [a0, a1, a2, some (.ref z), a4, a5, a6, a7, a8] (.ref z :: st) M x := Rs_next c394_2487 rfl
theorem c394_2488 : qx_code 394 2488 = some (2488, .iconst 0, 2489, 0, 0, 0) := by decide +kernel
theorem s394_2488 {L : Nat} {xs : Nat → Int32} {d x : Nat} {M : qxM} {st : List Value} {ls : qxL} : Rs L xs (d) 394 2488 ls st M x = Rs L xs (d) 394 2489 ls (.int (nI 0) :: st) M x := Rs_next c394_2488 rfl
theorem c394_2489 : qx_code 394 2489 = some (2489, .laload, 2490, 0, 0, 0) := by decide +kernel
theorem s394_2489 {L : Nat} {xs : Nat → Int32} {d x : Nat} {M : qxM} {st : List Value} {ls : qxL} {t : Nat} {j : Int32} (hk : qx_kd t = 4) (hj : qx_ib j (qx_ln t) = true) : Rs L xs (d) 394 2489 ls (.int j :: .ref t :: st) M x = Rs L xs (d) 394 2490 ls (.long (M.2.1 j.toNatClampNeg) :: st) M x := by
  have h1 := qx_kd_row (k := 4) (by decide) hk
  exact Rs_unless (qx_ib_not hj) c394_2489 (by unfold qx_act; dsimp only; rw [h1]; rfl)
theorem c394_2490 : qx_code 394 2490 = some (2490, .iload 7, 2492, 0, 0, 0) := by decide +kernel
theorem s394_2490 {L : Nat} {xs : Nat → Int32} {d x : Nat} {M : qxM} {st : List Value} {a0 a1 a2 a3 a4 a5 a6 a8 : Option Value} {z : Int32} : Rs L xs (d) 394 2490 [a0, a1, a2, a3, a4, a5, a6, some (.int z), a8] st M x = Rs L xs (d) 394 2492 [a0, a1, a2, a3, a4, a5, a6, some (.int z), a8] (.int z :: st) M x := Rs_next c394_2490 rfl
theorem c394_2492 : qx_code 394 2492 = some (2492, .i2l, 2493, 0, 0, 0) := by decide +kernel
theorem s394_2492 {L : Nat} {xs : Nat → Int32} {d x : Nat} {M : qxM} {st : List Value} {ls : qxL} {z : Int32} : Rs L xs (d) 394 2492 ls (.int z :: st) M x = Rs L xs (d) 394 2493 ls (.long z.toInt64 :: st) M x := Rs_next c394_2492 rfl
theorem c394_2493 : qx_code 394 2493 = some (2493, .lcmp, 2494, 0, 0, 0) := by decide +kernel
theorem s394_2493 {L : Nat} {xs : Nat → Int32} {d x : Nat} {M : qxM} {st : List Value} {ls : qxL} {z y : Int64} : Rs L xs (d) 394 2493 ls (.long y :: .long z :: st) M x = Rs L xs (d) 394 2494 ls (.int (lg_cmp z y) :: st) M x := Rs_next c394_2493 rfl
theorem c394_2494 : qx_code 394 2494 = some (2494, .ifCond .eq 5, 2497, 2499, 0, 0) := by decide +kernel
theorem s394_2494 {L : Nat} {xs : Nat → Int32} {d x : Nat} {M : qxM} {st : List Value} {ls : qxL} {z : Int32} : Rs L xs (d) 394 2494 ls (.int z :: st) M x = if z = 0 then Rs L xs (d) 394 2499 ls st M x else Rs L xs (d) 394 2497 ls st M x := Rs_ite c394_2494 rfl
theorem c394_2499 : qx_code 394 2499 = some (2499, .goto 1247, 2502, 3746, 0, 0) := by decide +kernel
theorem s394_2499 {L : Nat} {xs : Nat → Int32} {d x : Nat} {M : qxM} {st : List Value} {ls : qxL} : Rs L xs (d) 394 2499 ls st M x = Rs L xs (d) 394 3746 ls st M x := Rs_next c394_2499 rfl
theorem c394_2502 : qx_code 394 2502 = some (2502, .aload_n 1, 2503, 0, 0, 0) := by decide +kernel
theorem s394_2502 {L : Nat} {xs : Nat → Int32} {d x : Nat} {M : qxM} {st : List Value} {a0 a2 a3 a4 a5 a6 a7 a8 : Option Value} {z : Nat} : Rs L xs (d) 394 2502 [a0, some (.ref z), a2, a3, a4, a5, a6, a7, a8] st M x = Rs L xs (d) 394 2503 [a0, some (.ref z), a2, a3, a4, a5, a6, a7, a8] (.ref z :: st) M x := Rs_next c394_2502 rfl
theorem c394_2503 : qx_code 394 2503 = some (2503, .aload_n 3, 2504, 0, 0, 0) := by decide +kernel
theorem s394_2503 {L : Nat} {xs : Nat → Int32} {d x : Nat} {M : qxM} {st : List Value} {a0 a1 a2 a4 a5 a6 a7 a8 : Option Value} {z : Nat} : Rs L xs (d) 394 2503 [a0, a1, a2, some (.ref z), a4, a5, a6, a7, a8] st M x = Rs L xs (d) 394 2504 [a0, a1, a2, some (.ref z), a4, a5, a6, a7, a8] (.ref z :: st) M x := Rs_next c394_2503 rfl
theorem c394_2504 : qx_code 394 2504 = some (2504, .invokestatic 344, 2507, 372, 2, 1217) := by decide +kernel
theorem s394_2504 {L : Nat} {xs : Nat → Int32} {d x : Nat} {M : qxM} {st : List Value} {ls : qxL} {z0 : Nat} {z1 : Nat} (hs : st.length ≤ 4) : Rs L xs (d + 1) 394 2504 ls (.ref z1 :: .ref z0 :: st) M x = (Rs L xs d 372 0 [some (.ref z0), some (.ref z1), none] [] M 0).bind (qx_kn L xs (d + 1) 394 2504 2507 372 ls st x) := by
  have h1 : qx_act L xs (qx_rt 394) (2504, .invokestatic 344, 2507, 372, 2, 1217) ls (.ref z1 :: .ref z0 :: st) M = if 2 ≤ (.ref z1 :: .ref z0 :: st).length ∧ st.length ≤ 4 then some (.inr (.inr (.inr (372, [.ref z0, .ref z1], st)))) else none := rfl
  rw [if_pos ⟨by simp [List.length_cons]; try omega, hs⟩] at h1
  exact Rs_call c394_2504 h1 rfl
theorem c394_2507 : qx_code 394 2507 = some (2507, .istore 6, 2509, 0, 0, 0) := by decide +kernel
theorem s394_2507i {L : Nat} {xs : Nat → Int32} {d x : Nat} {M : qxM} {st : List Value} {a0 a1 a2 a3 a4 a6 a7 a8 : Option Value} {z : Int32} {y : Int32} : Rs L xs (d) 394 2507 [a0, a1, a2, a3, a4, some (.int y), a6, a7, a8] (.int z :: st) M x = Rs L xs (d) 394 2509 [a0, a1, a2, a3, a4, some (.int y), some (.int z), a7, a8] st M x := Rs_next c394_2507 rfl
theorem c394_2509 : qx_code 394 2509 = some (2509, .aload_n 2, 2510, 0, 0, 0) := by decide +kernel
theorem s394_2509 {L : Nat} {xs : Nat → Int32} {d x : Nat} {M : qxM} {st : List Value} {a0 a1 a3 a4 a5 a6 a7 a8 : Option Value} {z : Nat} : Rs L xs (d) 394 2509 [a0, a1, some (.ref z), a3, a4, a5, a6, a7, a8] st M x = Rs L xs (d) 394 2510 [a0, a1, some (.ref z), a3, a4, a5, a6, a7, a8] (.ref z :: st) M x := Rs_next c394_2509 rfl
theorem c394_2510 : qx_code 394 2510 = some (2510, .invokevirtual 346, 2513, 306, 1, 2065) := by decide +kernel
theorem s394_2510 {L : Nat} {xs : Nat → Int32} {d x : Nat} {M : qxM} {st : List Value} {ls : qxL} {t : Nat} (hk : qx_kd t = 18) (hs : st.length ≤ 4) : Rs L xs (d + 1) 394 2510 ls (.ref t :: st) M x = (Rs L xs d 306 0 [some (.ref t), none, none, none, none] [] M 0).bind (qx_kn L xs (d + 1) 394 2510 2513 306 ls st x) := by
  have h1 : qx_act L xs (qx_rt 394) (2510, .invokevirtual 346, 2513, 306, 1, 2065) ls (.ref t :: st) M = if 1 ≤ (.ref t :: st).length ∧ st.length ≤ 4 then some (.inr (.inr (.inr (306, [.ref t], st)))) else none := rfl
  rw [if_pos ⟨by simp [List.length_cons]; try omega, hs⟩] at h1
  have h2 := qx_kd_obj (k := 8) (by decide) hk
  exact Rs_call c394_2510 h1 (by rw [show qx_args 306 [.ref t] = decide (qx_sh t = some (.inl 8)) from rfl]; exact decide_eq_true h2)
theorem c394_2513 : qx_code 394 2513 = some (2513, .istore 7, 2515, 0, 0, 0) := by decide +kernel
theorem s394_2513i {L : Nat} {xs : Nat → Int32} {d x : Nat} {M : qxM} {st : List Value} {a0 a1 a2 a3 a4 a5 a7 a8 : Option Value} {z : Int32} {y : Int32} : Rs L xs (d) 394 2513 [a0, a1, a2, a3, a4, a5, some (.int y), a7, a8] (.int z :: st) M x = Rs L xs (d) 394 2515 [a0, a1, a2, a3, a4, a5, some (.int y), some (.int z), a8] st M x := Rs_next c394_2513 rfl
theorem c394_2515 : qx_code 394 2515 = some (2515, .aload_n 2, 2516, 0, 0, 0) := by decide +kernel
theorem s394_2515 {L : Nat} {xs : Nat → Int32} {d x : Nat} {M : qxM} {st : List Value} {a0 a1 a3 a4 a5 a6 a7 a8 : Option Value} {z : Nat} : Rs L xs (d) 394 2515 [a0, a1, some (.ref z), a3, a4, a5, a6, a7, a8] st M x = Rs L xs (d) 394 2516 [a0, a1, some (.ref z), a3, a4, a5, a6, a7, a8] (.ref z :: st) M x := Rs_next c394_2515 rfl
theorem c394_2516 : qx_code 394 2516 = some (2516, .invokevirtual 218, 2519, 177, 1, 1613) := by decide +kernel
theorem s394_2516 {L : Nat} {xs : Nat → Int32} {d x : Nat} {M : qxM} {st : List Value} {ls : qxL} {t : Nat} (hk : qx_kd t = 18) (hs : st.length ≤ 4) : Rs L xs (d + 1) 394 2516 ls (.ref t :: st) M x = (Rs L xs d 177 0 [some (.ref t)] [] M 0).bind (qx_kn L xs (d + 1) 394 2516 2519 177 ls st x) := by
  have h1 : qx_act L xs (qx_rt 394) (2516, .invokevirtual 218, 2519, 177, 1, 1613) ls (.ref t :: st) M = if 1 ≤ (.ref t :: st).length ∧ st.length ≤ 4 then some (.inr (.inr (.inr (177, [.ref t], st)))) else none := rfl
  rw [if_pos ⟨by simp [List.length_cons]; try omega, hs⟩] at h1
  have h2 := qx_kd_obj (k := 8) (by decide) hk
  exact Rs_call c394_2516 h1 (by rw [show qx_args 177 [.ref t] = decide (qx_sh t = some (.inl 8)) from rfl]; exact decide_eq_true h2)
theorem c394_2519 : qx_code 394 2519 = some (2519, .iload 6, 2521, 0, 0, 0) := by decide +kernel
theorem s394_2519 {L : Nat} {xs : Nat → Int32} {d x : Nat} {M : qxM} {st : List Value} {a0 a1 a2 a3 a4 a5 a7 a8 : Option Value} {z : Int32} : Rs L xs (d) 394 2519 [a0, a1, a2, a3, a4, a5, some (.int z), a7, a8] st M x = Rs L xs (d) 394 2521 [a0, a1, a2, a3, a4, a5, some (.int z), a7, a8] (.int z :: st) M x := Rs_next c394_2519 rfl
theorem c394_2521 : qx_code 394 2521 = some (2521, .if_icmp .eq 5, 2524, 2526, 0, 0) := by decide +kernel
theorem s394_2521 {L : Nat} {xs : Nat → Int32} {d x : Nat} {M : qxM} {st : List Value} {ls : qxL} {z y : Int32} : Rs L xs (d) 394 2521 ls (.int y :: .int z :: st) M x = if z = y then Rs L xs (d) 394 2526 ls st M x else Rs L xs (d) 394 2524 ls st M x := Rs_ite c394_2521 rfl
theorem c394_2526 : qx_code 394 2526 = some (2526, .iload 6, 2528, 0, 0, 0) := by decide +kernel
theorem s394_2526 {L : Nat} {xs : Nat → Int32} {d x : Nat} {M : qxM} {st : List Value} {a0 a1 a2 a3 a4 a5 a7 a8 : Option Value} {z : Int32} : Rs L xs (d) 394 2526 [a0, a1, a2, a3, a4, a5, some (.int z), a7, a8] st M x = Rs L xs (d) 394 2528 [a0, a1, a2, a3, a4, a5, some (.int z), a7, a8] (.int z :: st) M x := Rs_next c394_2526 rfl
theorem c394_2528 : qx_code 394 2528 = some (2528, .ifCond .ne 15, 2531, 2543, 0, 0) := by decide +kernel
theorem s394_2528 {L : Nat} {xs : Nat → Int32} {d x : Nat} {M : qxM} {st : List Value} {ls : qxL} {z : Int32} : Rs L xs (d) 394 2528 ls (.int z :: st) M x = if z = 0 then Rs L xs (d) 394 2531 ls st M x else Rs L xs (d) 394 2543 ls st M x := Rs_ite c394_2528 rfl
theorem c394_2531 : qx_code 394 2531 = some (2531, .aload_n 3, 2532, 0, 0, 0) := by decide +kernel
theorem s394_2531 {L : Nat} {xs : Nat → Int32} {d x : Nat} {M : qxM} {st : List Value} {a0 a1 a2 a4 a5 a6 a7 a8 : Option Value} {z : Nat} : Rs L xs (d) 394 2531 [a0, a1, a2, some (.ref z), a4, a5, a6, a7, a8] st M x = Rs L xs (d) 394 2532 [a0, a1, a2, some (.ref z), a4, a5, a6, a7, a8] (.ref z :: st) M x := Rs_next c394_2531 rfl
theorem c394_2532 : qx_code 394 2532 = some (2532, .iconst 0, 2533, 0, 0, 0) := by decide +kernel
theorem s394_2532 {L : Nat} {xs : Nat → Int32} {d x : Nat} {M : qxM} {st : List Value} {ls : qxL} : Rs L xs (d) 394 2532 ls st M x = Rs L xs (d) 394 2533 ls (.int (nI 0) :: st) M x := Rs_next c394_2532 rfl
theorem c394_2533 : qx_code 394 2533 = some (2533, .laload, 2534, 0, 0, 0) := by decide +kernel
theorem s394_2533 {L : Nat} {xs : Nat → Int32} {d x : Nat} {M : qxM} {st : List Value} {ls : qxL} {t : Nat} {j : Int32} (hk : qx_kd t = 4) (hj : qx_ib j (qx_ln t) = true) : Rs L xs (d) 394 2533 ls (.int j :: .ref t :: st) M x = Rs L xs (d) 394 2534 ls (.long (M.2.1 j.toNatClampNeg) :: st) M x := by
  have h1 := qx_kd_row (k := 4) (by decide) hk
  exact Rs_unless (qx_ib_not hj) c394_2533 (by unfold qx_act; dsimp only; rw [h1]; rfl)
theorem c394_2534 : qx_code 394 2534 = some (2534, .iload 7, 2536, 0, 0, 0) := by decide +kernel
theorem s394_2534 {L : Nat} {xs : Nat → Int32} {d x : Nat} {M : qxM} {st : List Value} {a0 a1 a2 a3 a4 a5 a6 a8 : Option Value} {z : Int32} : Rs L xs (d) 394 2534 [a0, a1, a2, a3, a4, a5, a6, some (.int z), a8] st M x = Rs L xs (d) 394 2536 [a0, a1, a2, a3, a4, a5, a6, some (.int z), a8] (.int z :: st) M x := Rs_next c394_2534 rfl
theorem c394_2536 : qx_code 394 2536 = some (2536, .i2l, 2537, 0, 0, 0) := by decide +kernel
theorem s394_2536 {L : Nat} {xs : Nat → Int32} {d x : Nat} {M : qxM} {st : List Value} {ls : qxL} {z : Int32} : Rs L xs (d) 394 2536 ls (.int z :: st) M x = Rs L xs (d) 394 2537 ls (.long z.toInt64 :: st) M x := Rs_next c394_2536 rfl
theorem c394_2537 : qx_code 394 2537 = some (2537, .lcmp, 2538, 0, 0, 0) := by decide +kernel
theorem s394_2537 {L : Nat} {xs : Nat → Int32} {d x : Nat} {M : qxM} {st : List Value} {ls : qxL} {z y : Int64} : Rs L xs (d) 394 2537 ls (.long y :: .long z :: st) M x = Rs L xs (d) 394 2538 ls (.int (lg_cmp z y) :: st) M x := Rs_next c394_2537 rfl
theorem c394_2538 : qx_code 394 2538 = some (2538, .ifCond .eq 5, 2541, 2543, 0, 0) := by decide +kernel
theorem s394_2538 {L : Nat} {xs : Nat → Int32} {d x : Nat} {M : qxM} {st : List Value} {ls : qxL} {z : Int32} : Rs L xs (d) 394 2538 ls (.int z :: st) M x = if z = 0 then Rs L xs (d) 394 2543 ls st M x else Rs L xs (d) 394 2541 ls st M x := Rs_ite c394_2538 rfl
theorem c394_2543 : qx_code 394 2543 = some (2543, .goto 1203, 2546, 3746, 0, 0) := by decide +kernel
theorem s394_2543 {L : Nat} {xs : Nat → Int32} {d x : Nat} {M : qxM} {st : List Value} {ls : qxL} : Rs L xs (d) 394 2543 ls st M x = Rs L xs (d) 394 3746 ls st M x := Rs_next c394_2543 rfl
theorem c394_2546 : qx_code 394 2546 = some (2546, .aload_n 1, 2547, 0, 0, 0) := by decide +kernel
theorem s394_2546 {L : Nat} {xs : Nat → Int32} {d x : Nat} {M : qxM} {st : List Value} {a0 a2 a3 a4 a5 a6 a7 a8 : Option Value} {z : Nat} : Rs L xs (d) 394 2546 [a0, some (.ref z), a2, a3, a4, a5, a6, a7, a8] st M x = Rs L xs (d) 394 2547 [a0, some (.ref z), a2, a3, a4, a5, a6, a7, a8] (.ref z :: st) M x := Rs_next c394_2546 rfl
theorem c394_2547 : qx_code 394 2547 = some (2547, .aload_n 0, 2548, 0, 0, 0) := by decide +kernel
theorem s394_2547 {L : Nat} {xs : Nat → Int32} {d x : Nat} {M : qxM} {st : List Value} {a1 a2 a3 a4 a5 a6 a7 a8 : Option Value} {z : Nat} : Rs L xs (d) 394 2547 [some (.ref z), a1, a2, a3, a4, a5, a6, a7, a8] st M x = Rs L xs (d) 394 2548 [some (.ref z), a1, a2, a3, a4, a5, a6, a7, a8] (.ref z :: st) M x := Rs_next c394_2547 rfl
theorem c394_2548 : qx_code 394 2548 = some (2548, .iload 5, 2550, 0, 0, 0) := by decide +kernel
theorem s394_2548 {L : Nat} {xs : Nat → Int32} {d x : Nat} {M : qxM} {st : List Value} {a0 a1 a2 a3 a4 a6 a7 a8 : Option Value} {z : Int32} : Rs L xs (d) 394 2548 [a0, a1, a2, a3, a4, some (.int z), a6, a7, a8] st M x = Rs L xs (d) 394 2550 [a0, a1, a2, a3, a4, some (.int z), a6, a7, a8] (.int z :: st) M x := Rs_next c394_2548 rfl
theorem c394_2550 : qx_code 394 2550 = some (2550, .iconst 1, 2551, 0, 0, 0) := by decide +kernel
theorem s394_2550 {L : Nat} {xs : Nat → Int32} {d x : Nat} {M : qxM} {st : List Value} {ls : qxL} : Rs L xs (d) 394 2550 ls st M x = Rs L xs (d) 394 2551 ls (.int (nI 1) :: st) M x := Rs_next c394_2550 rfl
theorem c394_2551 : qx_code 394 2551 = some (2551, .iadd, 2552, 0, 0, 0) := by decide +kernel
theorem s394_2551 {L : Nat} {xs : Nat → Int32} {d x : Nat} {M : qxM} {st : List Value} {ls : qxL} {z y : Int32} : Rs L xs (d) 394 2551 ls (.int y :: .int z :: st) M x = Rs L xs (d) 394 2552 ls (.int (z + y) :: st) M x := Rs_next c394_2551 rfl
theorem c394_2552 : qx_code 394 2552 = some (2552, .iaload, 2553, 0, 0, 0) := by decide +kernel
theorem s394_2552s {L : Nat} {xs : Nat → Int32} {d x : Nat} {M : qxM} {st : List Value} {ls : qxL} {j : Int32} (hj : qx_ib j L = true) : Rs L xs (d) 394 2552 ls (.int j :: .ref 1 :: st) M x = Rs L xs (d) 394 2553 ls (.int (xs j.toNatClampNeg) :: st) M x := Rs_unless (qx_ib_not hj) c394_2552 rfl
theorem c394_2553 : qx_code 394 2553 = some (2553, .aload_n 3, 2554, 0, 0, 0) := by decide +kernel
theorem s394_2553 {L : Nat} {xs : Nat → Int32} {d x : Nat} {M : qxM} {st : List Value} {a0 a1 a2 a4 a5 a6 a7 a8 : Option Value} {z : Nat} : Rs L xs (d) 394 2553 [a0, a1, a2, some (.ref z), a4, a5, a6, a7, a8] st M x = Rs L xs (d) 394 2554 [a0, a1, a2, some (.ref z), a4, a5, a6, a7, a8] (.ref z :: st) M x := Rs_next c394_2553 rfl
theorem c394_2554 : qx_code 394 2554 = some (2554, .invokestatic 347, 2557, 373, 3, 1224) := by decide +kernel
theorem s394_2554 {L : Nat} {xs : Nat → Int32} {d x : Nat} {M : qxM} {st : List Value} {ls : qxL} {z0 : Nat} {z1 : Int32} {z2 : Nat} (hs : st.length ≤ 4) : Rs L xs (d + 1) 394 2554 ls (.ref z2 :: .int z1 :: .ref z0 :: st) M x = (Rs L xs d 373 0 [some (.ref z0), some (.int z1), some (.ref z2), none] [] M 0).bind (qx_kn L xs (d + 1) 394 2554 2557 373 ls st x) := by
  have h1 : qx_act L xs (qx_rt 394) (2554, .invokestatic 347, 2557, 373, 3, 1224) ls (.ref z2 :: .int z1 :: .ref z0 :: st) M = if 3 ≤ (.ref z2 :: .int z1 :: .ref z0 :: st).length ∧ st.length ≤ 4 then some (.inr (.inr (.inr (373, [.ref z0, .int z1, .ref z2], st)))) else none := rfl
  rw [if_pos ⟨by simp [List.length_cons]; try omega, hs⟩] at h1
  exact Rs_call c394_2554 h1 rfl
theorem c394_2557 : qx_code 394 2557 = some (2557, .istore 6, 2559, 0, 0, 0) := by decide +kernel
theorem s394_2557i {L : Nat} {xs : Nat → Int32} {d x : Nat} {M : qxM} {st : List Value} {a0 a1 a2 a3 a4 a6 a7 a8 : Option Value} {z : Int32} {y : Int32} : Rs L xs (d) 394 2557 [a0, a1, a2, a3, a4, some (.int y), a6, a7, a8] (.int z :: st) M x = Rs L xs (d) 394 2559 [a0, a1, a2, a3, a4, some (.int y), some (.int z), a7, a8] st M x := Rs_next c394_2557 rfl
theorem c394_2559 : qx_code 394 2559 = some (2559, .aload_n 2, 2560, 0, 0, 0) := by decide +kernel
theorem s394_2559 {L : Nat} {xs : Nat → Int32} {d x : Nat} {M : qxM} {st : List Value} {a0 a1 a3 a4 a5 a6 a7 a8 : Option Value} {z : Nat} : Rs L xs (d) 394 2559 [a0, a1, some (.ref z), a3, a4, a5, a6, a7, a8] st M x = Rs L xs (d) 394 2560 [a0, a1, some (.ref z), a3, a4, a5, a6, a7, a8] (.ref z :: st) M x := Rs_next c394_2559 rfl
theorem c394_2560 : qx_code 394 2560 = some (2560, .aload_n 0, 2561, 0, 0, 0) := by decide +kernel
theorem s394_2560 {L : Nat} {xs : Nat → Int32} {d x : Nat} {M : qxM} {st : List Value} {a1 a2 a3 a4 a5 a6 a7 a8 : Option Value} {z : Nat} : Rs L xs (d) 394 2560 [some (.ref z), a1, a2, a3, a4, a5, a6, a7, a8] st M x = Rs L xs (d) 394 2561 [some (.ref z), a1, a2, a3, a4, a5, a6, a7, a8] (.ref z :: st) M x := Rs_next c394_2560 rfl
theorem c394_2561 : qx_code 394 2561 = some (2561, .iload 5, 2563, 0, 0, 0) := by decide +kernel
theorem s394_2561 {L : Nat} {xs : Nat → Int32} {d x : Nat} {M : qxM} {st : List Value} {a0 a1 a2 a3 a4 a6 a7 a8 : Option Value} {z : Int32} : Rs L xs (d) 394 2561 [a0, a1, a2, a3, a4, some (.int z), a6, a7, a8] st M x = Rs L xs (d) 394 2563 [a0, a1, a2, a3, a4, some (.int z), a6, a7, a8] (.int z :: st) M x := Rs_next c394_2561 rfl
theorem c394_2563 : qx_code 394 2563 = some (2563, .iconst 1, 2564, 0, 0, 0) := by decide +kernel
theorem s394_2563 {L : Nat} {xs : Nat → Int32} {d x : Nat} {M : qxM} {st : List Value} {ls : qxL} : Rs L xs (d) 394 2563 ls st M x = Rs L xs (d) 394 2564 ls (.int (nI 1) :: st) M x := Rs_next c394_2563 rfl
theorem c394_2564 : qx_code 394 2564 = some (2564, .iadd, 2565, 0, 0, 0) := by decide +kernel
theorem s394_2564 {L : Nat} {xs : Nat → Int32} {d x : Nat} {M : qxM} {st : List Value} {ls : qxL} {z y : Int32} : Rs L xs (d) 394 2564 ls (.int y :: .int z :: st) M x = Rs L xs (d) 394 2565 ls (.int (z + y) :: st) M x := Rs_next c394_2564 rfl
theorem c394_2565 : qx_code 394 2565 = some (2565, .iaload, 2566, 0, 0, 0) := by decide +kernel
theorem s394_2565s {L : Nat} {xs : Nat → Int32} {d x : Nat} {M : qxM} {st : List Value} {ls : qxL} {j : Int32} (hj : qx_ib j L = true) : Rs L xs (d) 394 2565 ls (.int j :: .ref 1 :: st) M x = Rs L xs (d) 394 2566 ls (.int (xs j.toNatClampNeg) :: st) M x := Rs_unless (qx_ib_not hj) c394_2565 rfl
theorem c394_2566 : qx_code 394 2566 = some (2566, .invokevirtual 349, 2569, 307, 2, 2069) := by decide +kernel
theorem s394_2566 {L : Nat} {xs : Nat → Int32} {d x : Nat} {M : qxM} {st : List Value} {ls : qxL} {t : Nat} {z0 : Int32} (hk : qx_kd t = 18) (hs : st.length ≤ 4) : Rs L xs (d + 1) 394 2566 ls (.int z0 :: .ref t :: st) M x = (Rs L xs d 307 0 [some (.ref t), some (.int z0), none] [] M 0).bind (qx_kn L xs (d + 1) 394 2566 2569 307 ls st x) := by
  have h1 : qx_act L xs (qx_rt 394) (2566, .invokevirtual 349, 2569, 307, 2, 2069) ls (.int z0 :: .ref t :: st) M = if 2 ≤ (.int z0 :: .ref t :: st).length ∧ st.length ≤ 4 then some (.inr (.inr (.inr (307, [.ref t, .int z0], st)))) else none := rfl
  rw [if_pos ⟨by simp [List.length_cons]; try omega, hs⟩] at h1
  have h2 := qx_kd_obj (k := 8) (by decide) hk
  exact Rs_call c394_2566 h1 (by rw [show qx_args 307 [.ref t, .int z0] = decide (qx_sh t = some (.inl 8)) from rfl]; exact decide_eq_true h2)
theorem c394_2569 : qx_code 394 2569 = some (2569, .istore 7, 2571, 0, 0, 0) := by decide +kernel
theorem s394_2569i {L : Nat} {xs : Nat → Int32} {d x : Nat} {M : qxM} {st : List Value} {a0 a1 a2 a3 a4 a5 a7 a8 : Option Value} {z : Int32} {y : Int32} : Rs L xs (d) 394 2569 [a0, a1, a2, a3, a4, a5, some (.int y), a7, a8] (.int z :: st) M x = Rs L xs (d) 394 2571 [a0, a1, a2, a3, a4, a5, some (.int y), some (.int z), a8] st M x := Rs_next c394_2569 rfl
theorem c394_2571 : qx_code 394 2571 = some (2571, .aload_n 2, 2572, 0, 0, 0) := by decide +kernel
theorem s394_2571 {L : Nat} {xs : Nat → Int32} {d x : Nat} {M : qxM} {st : List Value} {a0 a1 a3 a4 a5 a6 a7 a8 : Option Value} {z : Nat} : Rs L xs (d) 394 2571 [a0, a1, some (.ref z), a3, a4, a5, a6, a7, a8] st M x = Rs L xs (d) 394 2572 [a0, a1, some (.ref z), a3, a4, a5, a6, a7, a8] (.ref z :: st) M x := Rs_next c394_2571 rfl
theorem c394_2572 : qx_code 394 2572 = some (2572, .invokevirtual 218, 2575, 177, 1, 1613) := by decide +kernel
theorem s394_2572 {L : Nat} {xs : Nat → Int32} {d x : Nat} {M : qxM} {st : List Value} {ls : qxL} {t : Nat} (hk : qx_kd t = 18) (hs : st.length ≤ 4) : Rs L xs (d + 1) 394 2572 ls (.ref t :: st) M x = (Rs L xs d 177 0 [some (.ref t)] [] M 0).bind (qx_kn L xs (d + 1) 394 2572 2575 177 ls st x) := by
  have h1 : qx_act L xs (qx_rt 394) (2572, .invokevirtual 218, 2575, 177, 1, 1613) ls (.ref t :: st) M = if 1 ≤ (.ref t :: st).length ∧ st.length ≤ 4 then some (.inr (.inr (.inr (177, [.ref t], st)))) else none := rfl
  rw [if_pos ⟨by simp [List.length_cons]; try omega, hs⟩] at h1
  have h2 := qx_kd_obj (k := 8) (by decide) hk
  exact Rs_call c394_2572 h1 (by rw [show qx_args 177 [.ref t] = decide (qx_sh t = some (.inl 8)) from rfl]; exact decide_eq_true h2)
theorem c394_2575 : qx_code 394 2575 = some (2575, .iload 6, 2577, 0, 0, 0) := by decide +kernel
theorem s394_2575 {L : Nat} {xs : Nat → Int32} {d x : Nat} {M : qxM} {st : List Value} {a0 a1 a2 a3 a4 a5 a7 a8 : Option Value} {z : Int32} : Rs L xs (d) 394 2575 [a0, a1, a2, a3, a4, a5, some (.int z), a7, a8] st M x = Rs L xs (d) 394 2577 [a0, a1, a2, a3, a4, a5, some (.int z), a7, a8] (.int z :: st) M x := Rs_next c394_2575 rfl
theorem c394_2577 : qx_code 394 2577 = some (2577, .if_icmp .eq 5, 2580, 2582, 0, 0) := by decide +kernel
theorem s394_2577 {L : Nat} {xs : Nat → Int32} {d x : Nat} {M : qxM} {st : List Value} {ls : qxL} {z y : Int32} : Rs L xs (d) 394 2577 ls (.int y :: .int z :: st) M x = if z = y then Rs L xs (d) 394 2582 ls st M x else Rs L xs (d) 394 2580 ls st M x := Rs_ite c394_2577 rfl
theorem c394_2582 : qx_code 394 2582 = some (2582, .iload 6, 2584, 0, 0, 0) := by decide +kernel
theorem s394_2582 {L : Nat} {xs : Nat → Int32} {d x : Nat} {M : qxM} {st : List Value} {a0 a1 a2 a3 a4 a5 a7 a8 : Option Value} {z : Int32} : Rs L xs (d) 394 2582 [a0, a1, a2, a3, a4, a5, some (.int z), a7, a8] st M x = Rs L xs (d) 394 2584 [a0, a1, a2, a3, a4, a5, some (.int z), a7, a8] (.int z :: st) M x := Rs_next c394_2582 rfl
theorem c394_2584 : qx_code 394 2584 = some (2584, .ifCond .ne 15, 2587, 2599, 0, 0) := by decide +kernel
theorem s394_2584 {L : Nat} {xs : Nat → Int32} {d x : Nat} {M : qxM} {st : List Value} {ls : qxL} {z : Int32} : Rs L xs (d) 394 2584 ls (.int z :: st) M x = if z = 0 then Rs L xs (d) 394 2587 ls st M x else Rs L xs (d) 394 2599 ls st M x := Rs_ite c394_2584 rfl
theorem c394_2587 : qx_code 394 2587 = some (2587, .aload_n 3, 2588, 0, 0, 0) := by decide +kernel
theorem s394_2587 {L : Nat} {xs : Nat → Int32} {d x : Nat} {M : qxM} {st : List Value} {a0 a1 a2 a4 a5 a6 a7 a8 : Option Value} {z : Nat} : Rs L xs (d) 394 2587 [a0, a1, a2, some (.ref z), a4, a5, a6, a7, a8] st M x = Rs L xs (d) 394 2588 [a0, a1, a2, some (.ref z), a4, a5, a6, a7, a8] (.ref z :: st) M x := Rs_next c394_2587 rfl
theorem c394_2588 : qx_code 394 2588 = some (2588, .iconst 0, 2589, 0, 0, 0) := by decide +kernel
theorem s394_2588 {L : Nat} {xs : Nat → Int32} {d x : Nat} {M : qxM} {st : List Value} {ls : qxL} : Rs L xs (d) 394 2588 ls st M x = Rs L xs (d) 394 2589 ls (.int (nI 0) :: st) M x := Rs_next c394_2588 rfl
theorem c394_2589 : qx_code 394 2589 = some (2589, .laload, 2590, 0, 0, 0) := by decide +kernel
theorem s394_2589 {L : Nat} {xs : Nat → Int32} {d x : Nat} {M : qxM} {st : List Value} {ls : qxL} {t : Nat} {j : Int32} (hk : qx_kd t = 4) (hj : qx_ib j (qx_ln t) = true) : Rs L xs (d) 394 2589 ls (.int j :: .ref t :: st) M x = Rs L xs (d) 394 2590 ls (.long (M.2.1 j.toNatClampNeg) :: st) M x := by
  have h1 := qx_kd_row (k := 4) (by decide) hk
  exact Rs_unless (qx_ib_not hj) c394_2589 (by unfold qx_act; dsimp only; rw [h1]; rfl)
theorem c394_2590 : qx_code 394 2590 = some (2590, .iload 7, 2592, 0, 0, 0) := by decide +kernel
theorem s394_2590 {L : Nat} {xs : Nat → Int32} {d x : Nat} {M : qxM} {st : List Value} {a0 a1 a2 a3 a4 a5 a6 a8 : Option Value} {z : Int32} : Rs L xs (d) 394 2590 [a0, a1, a2, a3, a4, a5, a6, some (.int z), a8] st M x = Rs L xs (d) 394 2592 [a0, a1, a2, a3, a4, a5, a6, some (.int z), a8] (.int z :: st) M x := Rs_next c394_2590 rfl
theorem c394_2592 : qx_code 394 2592 = some (2592, .i2l, 2593, 0, 0, 0) := by decide +kernel
theorem s394_2592 {L : Nat} {xs : Nat → Int32} {d x : Nat} {M : qxM} {st : List Value} {ls : qxL} {z : Int32} : Rs L xs (d) 394 2592 ls (.int z :: st) M x = Rs L xs (d) 394 2593 ls (.long z.toInt64 :: st) M x := Rs_next c394_2592 rfl
theorem c394_2593 : qx_code 394 2593 = some (2593, .lcmp, 2594, 0, 0, 0) := by decide +kernel
theorem s394_2593 {L : Nat} {xs : Nat → Int32} {d x : Nat} {M : qxM} {st : List Value} {ls : qxL} {z y : Int64} : Rs L xs (d) 394 2593 ls (.long y :: .long z :: st) M x = Rs L xs (d) 394 2594 ls (.int (lg_cmp z y) :: st) M x := Rs_next c394_2593 rfl
theorem c394_2594 : qx_code 394 2594 = some (2594, .ifCond .eq 5, 2597, 2599, 0, 0) := by decide +kernel
theorem s394_2594 {L : Nat} {xs : Nat → Int32} {d x : Nat} {M : qxM} {st : List Value} {ls : qxL} {z : Int32} : Rs L xs (d) 394 2594 ls (.int z :: st) M x = if z = 0 then Rs L xs (d) 394 2599 ls st M x else Rs L xs (d) 394 2597 ls st M x := Rs_ite c394_2594 rfl
theorem c394_2599 : qx_code 394 2599 = some (2599, .goto 1147, 2602, 3746, 0, 0) := by decide +kernel
theorem s394_2599 {L : Nat} {xs : Nat → Int32} {d x : Nat} {M : qxM} {st : List Value} {ls : qxL} : Rs L xs (d) 394 2599 ls st M x = Rs L xs (d) 394 3746 ls st M x := Rs_next c394_2599 rfl
theorem c394_2602 : qx_code 394 2602 = some (2602, .aload_n 1, 2603, 0, 0, 0) := by decide +kernel
theorem s394_2602 {L : Nat} {xs : Nat → Int32} {d x : Nat} {M : qxM} {st : List Value} {a0 a2 a3 a4 a5 a6 a7 a8 : Option Value} {z : Nat} : Rs L xs (d) 394 2602 [a0, some (.ref z), a2, a3, a4, a5, a6, a7, a8] st M x = Rs L xs (d) 394 2603 [a0, some (.ref z), a2, a3, a4, a5, a6, a7, a8] (.ref z :: st) M x := Rs_next c394_2602 rfl
theorem c394_2603 : qx_code 394 2603 = some (2603, .aload_n 0, 2604, 0, 0, 0) := by decide +kernel
theorem s394_2603 {L : Nat} {xs : Nat → Int32} {d x : Nat} {M : qxM} {st : List Value} {a1 a2 a3 a4 a5 a6 a7 a8 : Option Value} {z : Nat} : Rs L xs (d) 394 2603 [some (.ref z), a1, a2, a3, a4, a5, a6, a7, a8] st M x = Rs L xs (d) 394 2604 [some (.ref z), a1, a2, a3, a4, a5, a6, a7, a8] (.ref z :: st) M x := Rs_next c394_2603 rfl
theorem c394_2604 : qx_code 394 2604 = some (2604, .iload 5, 2606, 0, 0, 0) := by decide +kernel
theorem s394_2604 {L : Nat} {xs : Nat → Int32} {d x : Nat} {M : qxM} {st : List Value} {a0 a1 a2 a3 a4 a6 a7 a8 : Option Value} {z : Int32} : Rs L xs (d) 394 2604 [a0, a1, a2, a3, a4, some (.int z), a6, a7, a8] st M x = Rs L xs (d) 394 2606 [a0, a1, a2, a3, a4, some (.int z), a6, a7, a8] (.int z :: st) M x := Rs_next c394_2604 rfl
theorem c394_2606 : qx_code 394 2606 = some (2606, .iconst 1, 2607, 0, 0, 0) := by decide +kernel
theorem s394_2606 {L : Nat} {xs : Nat → Int32} {d x : Nat} {M : qxM} {st : List Value} {ls : qxL} : Rs L xs (d) 394 2606 ls st M x = Rs L xs (d) 394 2607 ls (.int (nI 1) :: st) M x := Rs_next c394_2606 rfl
theorem c394_2607 : qx_code 394 2607 = some (2607, .iadd, 2608, 0, 0, 0) := by decide +kernel
theorem s394_2607 {L : Nat} {xs : Nat → Int32} {d x : Nat} {M : qxM} {st : List Value} {ls : qxL} {z y : Int32} : Rs L xs (d) 394 2607 ls (.int y :: .int z :: st) M x = Rs L xs (d) 394 2608 ls (.int (z + y) :: st) M x := Rs_next c394_2607 rfl
theorem c394_2608 : qx_code 394 2608 = some (2608, .iaload, 2609, 0, 0, 0) := by decide +kernel
theorem s394_2608s {L : Nat} {xs : Nat → Int32} {d x : Nat} {M : qxM} {st : List Value} {ls : qxL} {j : Int32} (hj : qx_ib j L = true) : Rs L xs (d) 394 2608 ls (.int j :: .ref 1 :: st) M x = Rs L xs (d) 394 2609 ls (.int (xs j.toNatClampNeg) :: st) M x := Rs_unless (qx_ib_not hj) c394_2608 rfl
theorem c394_2609 : qx_code 394 2609 = some (2609, .aload_n 3, 2610, 0, 0, 0) := by decide +kernel
theorem s394_2609 {L : Nat} {xs : Nat → Int32} {d x : Nat} {M : qxM} {st : List Value} {a0 a1 a2 a4 a5 a6 a7 a8 : Option Value} {z : Nat} : Rs L xs (d) 394 2609 [a0, a1, a2, some (.ref z), a4, a5, a6, a7, a8] st M x = Rs L xs (d) 394 2610 [a0, a1, a2, some (.ref z), a4, a5, a6, a7, a8] (.ref z :: st) M x := Rs_next c394_2609 rfl
theorem c394_2610 : qx_code 394 2610 = some (2610, .invokestatic 350, 2613, 374, 3, 1319) := by decide +kernel
theorem s394_2610 {L : Nat} {xs : Nat → Int32} {d x : Nat} {M : qxM} {st : List Value} {ls : qxL} {z0 : Nat} {z1 : Int32} {z2 : Nat} (hs : st.length ≤ 4) : Rs L xs (d + 1) 394 2610 ls (.ref z2 :: .int z1 :: .ref z0 :: st) M x = (Rs L xs d 374 0 [some (.ref z0), some (.int z1), some (.ref z2), none] [] M 0).bind (qx_kn L xs (d + 1) 394 2610 2613 374 ls st x) := by
  have h1 : qx_act L xs (qx_rt 394) (2610, .invokestatic 350, 2613, 374, 3, 1319) ls (.ref z2 :: .int z1 :: .ref z0 :: st) M = if 3 ≤ (.ref z2 :: .int z1 :: .ref z0 :: st).length ∧ st.length ≤ 4 then some (.inr (.inr (.inr (374, [.ref z0, .int z1, .ref z2], st)))) else none := rfl
  rw [if_pos ⟨by simp [List.length_cons]; try omega, hs⟩] at h1
  exact Rs_call c394_2610 h1 rfl
theorem c394_2613 : qx_code 394 2613 = some (2613, .istore 6, 2615, 0, 0, 0) := by decide +kernel
theorem s394_2613i {L : Nat} {xs : Nat → Int32} {d x : Nat} {M : qxM} {st : List Value} {a0 a1 a2 a3 a4 a6 a7 a8 : Option Value} {z : Int32} {y : Int32} : Rs L xs (d) 394 2613 [a0, a1, a2, a3, a4, some (.int y), a6, a7, a8] (.int z :: st) M x = Rs L xs (d) 394 2615 [a0, a1, a2, a3, a4, some (.int y), some (.int z), a7, a8] st M x := Rs_next c394_2613 rfl
theorem c394_2615 : qx_code 394 2615 = some (2615, .aload_n 2, 2616, 0, 0, 0) := by decide +kernel
theorem s394_2615 {L : Nat} {xs : Nat → Int32} {d x : Nat} {M : qxM} {st : List Value} {a0 a1 a3 a4 a5 a6 a7 a8 : Option Value} {z : Nat} : Rs L xs (d) 394 2615 [a0, a1, some (.ref z), a3, a4, a5, a6, a7, a8] st M x = Rs L xs (d) 394 2616 [a0, a1, some (.ref z), a3, a4, a5, a6, a7, a8] (.ref z :: st) M x := Rs_next c394_2615 rfl
theorem c394_2616 : qx_code 394 2616 = some (2616, .aload_n 0, 2617, 0, 0, 0) := by decide +kernel
theorem s394_2616 {L : Nat} {xs : Nat → Int32} {d x : Nat} {M : qxM} {st : List Value} {a1 a2 a3 a4 a5 a6 a7 a8 : Option Value} {z : Nat} : Rs L xs (d) 394 2616 [some (.ref z), a1, a2, a3, a4, a5, a6, a7, a8] st M x = Rs L xs (d) 394 2617 [some (.ref z), a1, a2, a3, a4, a5, a6, a7, a8] (.ref z :: st) M x := Rs_next c394_2616 rfl
theorem c394_2617 : qx_code 394 2617 = some (2617, .iload 5, 2619, 0, 0, 0) := by decide +kernel
theorem s394_2617 {L : Nat} {xs : Nat → Int32} {d x : Nat} {M : qxM} {st : List Value} {a0 a1 a2 a3 a4 a6 a7 a8 : Option Value} {z : Int32} : Rs L xs (d) 394 2617 [a0, a1, a2, a3, a4, some (.int z), a6, a7, a8] st M x = Rs L xs (d) 394 2619 [a0, a1, a2, a3, a4, some (.int z), a6, a7, a8] (.int z :: st) M x := Rs_next c394_2617 rfl
theorem c394_2619 : qx_code 394 2619 = some (2619, .iconst 1, 2620, 0, 0, 0) := by decide +kernel
theorem s394_2619 {L : Nat} {xs : Nat → Int32} {d x : Nat} {M : qxM} {st : List Value} {ls : qxL} : Rs L xs (d) 394 2619 ls st M x = Rs L xs (d) 394 2620 ls (.int (nI 1) :: st) M x := Rs_next c394_2619 rfl
theorem c394_2620 : qx_code 394 2620 = some (2620, .iadd, 2621, 0, 0, 0) := by decide +kernel
theorem s394_2620 {L : Nat} {xs : Nat → Int32} {d x : Nat} {M : qxM} {st : List Value} {ls : qxL} {z y : Int32} : Rs L xs (d) 394 2620 ls (.int y :: .int z :: st) M x = Rs L xs (d) 394 2621 ls (.int (z + y) :: st) M x := Rs_next c394_2620 rfl
theorem c394_2621 : qx_code 394 2621 = some (2621, .iaload, 2622, 0, 0, 0) := by decide +kernel
theorem s394_2621s {L : Nat} {xs : Nat → Int32} {d x : Nat} {M : qxM} {st : List Value} {ls : qxL} {j : Int32} (hj : qx_ib j L = true) : Rs L xs (d) 394 2621 ls (.int j :: .ref 1 :: st) M x = Rs L xs (d) 394 2622 ls (.int (xs j.toNatClampNeg) :: st) M x := Rs_unless (qx_ib_not hj) c394_2621 rfl
theorem c394_2622 : qx_code 394 2622 = some (2622, .invokevirtual 352, 2625, 308, 2, 2133) := by decide +kernel
theorem s394_2622 {L : Nat} {xs : Nat → Int32} {d x : Nat} {M : qxM} {st : List Value} {ls : qxL} {t : Nat} {z0 : Int32} (hk : qx_kd t = 18) (hs : st.length ≤ 4) : Rs L xs (d + 1) 394 2622 ls (.int z0 :: .ref t :: st) M x = (Rs L xs d 308 0 [some (.ref t), some (.int z0)] [] M 0).bind (qx_kn L xs (d + 1) 394 2622 2625 308 ls st x) := by
  have h1 : qx_act L xs (qx_rt 394) (2622, .invokevirtual 352, 2625, 308, 2, 2133) ls (.int z0 :: .ref t :: st) M = if 2 ≤ (.int z0 :: .ref t :: st).length ∧ st.length ≤ 4 then some (.inr (.inr (.inr (308, [.ref t, .int z0], st)))) else none := rfl
  rw [if_pos ⟨by simp [List.length_cons]; try omega, hs⟩] at h1
  have h2 := qx_kd_obj (k := 8) (by decide) hk
  exact Rs_call c394_2622 h1 (by rw [show qx_args 308 [.ref t, .int z0] = decide (qx_sh t = some (.inl 8)) from rfl]; exact decide_eq_true h2)
theorem c394_2625 : qx_code 394 2625 = some (2625, .istore 7, 2627, 0, 0, 0) := by decide +kernel
theorem s394_2625i {L : Nat} {xs : Nat → Int32} {d x : Nat} {M : qxM} {st : List Value} {a0 a1 a2 a3 a4 a5 a7 a8 : Option Value} {z : Int32} {y : Int32} : Rs L xs (d) 394 2625 [a0, a1, a2, a3, a4, a5, some (.int y), a7, a8] (.int z :: st) M x = Rs L xs (d) 394 2627 [a0, a1, a2, a3, a4, a5, some (.int y), some (.int z), a8] st M x := Rs_next c394_2625 rfl
theorem c394_2627 : qx_code 394 2627 = some (2627, .aload_n 2, 2628, 0, 0, 0) := by decide +kernel
theorem s394_2627 {L : Nat} {xs : Nat → Int32} {d x : Nat} {M : qxM} {st : List Value} {a0 a1 a3 a4 a5 a6 a7 a8 : Option Value} {z : Nat} : Rs L xs (d) 394 2627 [a0, a1, some (.ref z), a3, a4, a5, a6, a7, a8] st M x = Rs L xs (d) 394 2628 [a0, a1, some (.ref z), a3, a4, a5, a6, a7, a8] (.ref z :: st) M x := Rs_next c394_2627 rfl
theorem c394_2628 : qx_code 394 2628 = some (2628, .invokevirtual 218, 2631, 177, 1, 1613) := by decide +kernel
theorem s394_2628 {L : Nat} {xs : Nat → Int32} {d x : Nat} {M : qxM} {st : List Value} {ls : qxL} {t : Nat} (hk : qx_kd t = 18) (hs : st.length ≤ 4) : Rs L xs (d + 1) 394 2628 ls (.ref t :: st) M x = (Rs L xs d 177 0 [some (.ref t)] [] M 0).bind (qx_kn L xs (d + 1) 394 2628 2631 177 ls st x) := by
  have h1 : qx_act L xs (qx_rt 394) (2628, .invokevirtual 218, 2631, 177, 1, 1613) ls (.ref t :: st) M = if 1 ≤ (.ref t :: st).length ∧ st.length ≤ 4 then some (.inr (.inr (.inr (177, [.ref t], st)))) else none := rfl
  rw [if_pos ⟨by simp [List.length_cons]; try omega, hs⟩] at h1
  have h2 := qx_kd_obj (k := 8) (by decide) hk
  exact Rs_call c394_2628 h1 (by rw [show qx_args 177 [.ref t] = decide (qx_sh t = some (.inl 8)) from rfl]; exact decide_eq_true h2)
theorem c394_2631 : qx_code 394 2631 = some (2631, .iload 6, 2633, 0, 0, 0) := by decide +kernel
theorem s394_2631 {L : Nat} {xs : Nat → Int32} {d x : Nat} {M : qxM} {st : List Value} {a0 a1 a2 a3 a4 a5 a7 a8 : Option Value} {z : Int32} : Rs L xs (d) 394 2631 [a0, a1, a2, a3, a4, a5, some (.int z), a7, a8] st M x = Rs L xs (d) 394 2633 [a0, a1, a2, a3, a4, a5, some (.int z), a7, a8] (.int z :: st) M x := Rs_next c394_2631 rfl
theorem c394_2633 : qx_code 394 2633 = some (2633, .if_icmp .eq 5, 2636, 2638, 0, 0) := by decide +kernel
theorem s394_2633 {L : Nat} {xs : Nat → Int32} {d x : Nat} {M : qxM} {st : List Value} {ls : qxL} {z y : Int32} : Rs L xs (d) 394 2633 ls (.int y :: .int z :: st) M x = if z = y then Rs L xs (d) 394 2638 ls st M x else Rs L xs (d) 394 2636 ls st M x := Rs_ite c394_2633 rfl
theorem c394_2638 : qx_code 394 2638 = some (2638, .iload 6, 2640, 0, 0, 0) := by decide +kernel
theorem s394_2638 {L : Nat} {xs : Nat → Int32} {d x : Nat} {M : qxM} {st : List Value} {a0 a1 a2 a3 a4 a5 a7 a8 : Option Value} {z : Int32} : Rs L xs (d) 394 2638 [a0, a1, a2, a3, a4, a5, some (.int z), a7, a8] st M x = Rs L xs (d) 394 2640 [a0, a1, a2, a3, a4, a5, some (.int z), a7, a8] (.int z :: st) M x := Rs_next c394_2638 rfl
theorem c394_2640 : qx_code 394 2640 = some (2640, .ifCond .ne 15, 2643, 2655, 0, 0) := by decide +kernel
theorem s394_2640 {L : Nat} {xs : Nat → Int32} {d x : Nat} {M : qxM} {st : List Value} {ls : qxL} {z : Int32} : Rs L xs (d) 394 2640 ls (.int z :: st) M x = if z = 0 then Rs L xs (d) 394 2643 ls st M x else Rs L xs (d) 394 2655 ls st M x := Rs_ite c394_2640 rfl
theorem c394_2643 : qx_code 394 2643 = some (2643, .aload_n 3, 2644, 0, 0, 0) := by decide +kernel
theorem s394_2643 {L : Nat} {xs : Nat → Int32} {d x : Nat} {M : qxM} {st : List Value} {a0 a1 a2 a4 a5 a6 a7 a8 : Option Value} {z : Nat} : Rs L xs (d) 394 2643 [a0, a1, a2, some (.ref z), a4, a5, a6, a7, a8] st M x = Rs L xs (d) 394 2644 [a0, a1, a2, some (.ref z), a4, a5, a6, a7, a8] (.ref z :: st) M x := Rs_next c394_2643 rfl
theorem c394_2644 : qx_code 394 2644 = some (2644, .iconst 0, 2645, 0, 0, 0) := by decide +kernel
theorem s394_2644 {L : Nat} {xs : Nat → Int32} {d x : Nat} {M : qxM} {st : List Value} {ls : qxL} : Rs L xs (d) 394 2644 ls st M x = Rs L xs (d) 394 2645 ls (.int (nI 0) :: st) M x := Rs_next c394_2644 rfl
theorem c394_2645 : qx_code 394 2645 = some (2645, .laload, 2646, 0, 0, 0) := by decide +kernel
theorem s394_2645 {L : Nat} {xs : Nat → Int32} {d x : Nat} {M : qxM} {st : List Value} {ls : qxL} {t : Nat} {j : Int32} (hk : qx_kd t = 4) (hj : qx_ib j (qx_ln t) = true) : Rs L xs (d) 394 2645 ls (.int j :: .ref t :: st) M x = Rs L xs (d) 394 2646 ls (.long (M.2.1 j.toNatClampNeg) :: st) M x := by
  have h1 := qx_kd_row (k := 4) (by decide) hk
  exact Rs_unless (qx_ib_not hj) c394_2645 (by unfold qx_act; dsimp only; rw [h1]; rfl)
theorem c394_2646 : qx_code 394 2646 = some (2646, .iload 7, 2648, 0, 0, 0) := by decide +kernel
theorem s394_2646 {L : Nat} {xs : Nat → Int32} {d x : Nat} {M : qxM} {st : List Value} {a0 a1 a2 a3 a4 a5 a6 a8 : Option Value} {z : Int32} : Rs L xs (d) 394 2646 [a0, a1, a2, a3, a4, a5, a6, some (.int z), a8] st M x = Rs L xs (d) 394 2648 [a0, a1, a2, a3, a4, a5, a6, some (.int z), a8] (.int z :: st) M x := Rs_next c394_2646 rfl
theorem c394_2648 : qx_code 394 2648 = some (2648, .i2l, 2649, 0, 0, 0) := by decide +kernel
theorem s394_2648 {L : Nat} {xs : Nat → Int32} {d x : Nat} {M : qxM} {st : List Value} {ls : qxL} {z : Int32} : Rs L xs (d) 394 2648 ls (.int z :: st) M x = Rs L xs (d) 394 2649 ls (.long z.toInt64 :: st) M x := Rs_next c394_2648 rfl
theorem c394_2649 : qx_code 394 2649 = some (2649, .lcmp, 2650, 0, 0, 0) := by decide +kernel
theorem s394_2649 {L : Nat} {xs : Nat → Int32} {d x : Nat} {M : qxM} {st : List Value} {ls : qxL} {z y : Int64} : Rs L xs (d) 394 2649 ls (.long y :: .long z :: st) M x = Rs L xs (d) 394 2650 ls (.int (lg_cmp z y) :: st) M x := Rs_next c394_2649 rfl
theorem c394_2650 : qx_code 394 2650 = some (2650, .ifCond .eq 5, 2653, 2655, 0, 0) := by decide +kernel
theorem s394_2650 {L : Nat} {xs : Nat → Int32} {d x : Nat} {M : qxM} {st : List Value} {ls : qxL} {z : Int32} : Rs L xs (d) 394 2650 ls (.int z :: st) M x = if z = 0 then Rs L xs (d) 394 2655 ls st M x else Rs L xs (d) 394 2653 ls st M x := Rs_ite c394_2650 rfl
theorem c394_2655 : qx_code 394 2655 = some (2655, .goto 1091, 2658, 3746, 0, 0) := by decide +kernel
theorem s394_2655 {L : Nat} {xs : Nat → Int32} {d x : Nat} {M : qxM} {st : List Value} {ls : qxL} : Rs L xs (d) 394 2655 ls st M x = Rs L xs (d) 394 3746 ls st M x := Rs_next c394_2655 rfl
theorem c394_2658 : qx_code 394 2658 = some (2658, .aload_n 1, 2659, 0, 0, 0) := by decide +kernel
theorem s394_2658 {L : Nat} {xs : Nat → Int32} {d x : Nat} {M : qxM} {st : List Value} {a0 a2 a3 a4 a5 a6 a7 a8 : Option Value} {z : Nat} : Rs L xs (d) 394 2658 [a0, some (.ref z), a2, a3, a4, a5, a6, a7, a8] st M x = Rs L xs (d) 394 2659 [a0, some (.ref z), a2, a3, a4, a5, a6, a7, a8] (.ref z :: st) M x := Rs_next c394_2658 rfl
theorem c394_2659 : qx_code 394 2659 = some (2659, .aload 4, 2661, 0, 0, 0) := by decide +kernel
theorem s394_2659 {L : Nat} {xs : Nat → Int32} {d x : Nat} {M : qxM} {st : List Value} {a0 a1 a2 a3 a5 a6 a7 a8 : Option Value} {z : Nat} : Rs L xs (d) 394 2659 [a0, a1, a2, a3, some (.ref z), a5, a6, a7, a8] st M x = Rs L xs (d) 394 2661 [a0, a1, a2, a3, some (.ref z), a5, a6, a7, a8] (.ref z :: st) M x := Rs_next c394_2659 rfl
theorem c394_2661 : qx_code 394 2661 = some (2661, .invokestatic 353, 2664, 375, 2, 1326) := by decide +kernel
theorem s394_2661 {L : Nat} {xs : Nat → Int32} {d x : Nat} {M : qxM} {st : List Value} {ls : qxL} {z0 : Nat} {z1 : Nat} (hs : st.length ≤ 4) : Rs L xs (d + 1) 394 2661 ls (.ref z1 :: .ref z0 :: st) M x = (Rs L xs d 375 0 [some (.ref z0), some (.ref z1), none] [] M 0).bind (qx_kn L xs (d + 1) 394 2661 2664 375 ls st x) := by
  have h1 : qx_act L xs (qx_rt 394) (2661, .invokestatic 353, 2664, 375, 2, 1326) ls (.ref z1 :: .ref z0 :: st) M = if 2 ≤ (.ref z1 :: .ref z0 :: st).length ∧ st.length ≤ 4 then some (.inr (.inr (.inr (375, [.ref z0, .ref z1], st)))) else none := rfl
  rw [if_pos ⟨by simp [List.length_cons]; try omega, hs⟩] at h1
  exact Rs_call c394_2661 h1 rfl
theorem c394_2664 : qx_code 394 2664 = some (2664, .istore 6, 2666, 0, 0, 0) := by decide +kernel
theorem s394_2664i {L : Nat} {xs : Nat → Int32} {d x : Nat} {M : qxM} {st : List Value} {a0 a1 a2 a3 a4 a6 a7 a8 : Option Value} {z : Int32} {y : Int32} : Rs L xs (d) 394 2664 [a0, a1, a2, a3, a4, some (.int y), a6, a7, a8] (.int z :: st) M x = Rs L xs (d) 394 2666 [a0, a1, a2, a3, a4, some (.int y), some (.int z), a7, a8] st M x := Rs_next c394_2664 rfl
theorem c394_2666 : qx_code 394 2666 = some (2666, .aload_n 2, 2667, 0, 0, 0) := by decide +kernel
theorem s394_2666 {L : Nat} {xs : Nat → Int32} {d x : Nat} {M : qxM} {st : List Value} {a0 a1 a3 a4 a5 a6 a7 a8 : Option Value} {z : Nat} : Rs L xs (d) 394 2666 [a0, a1, some (.ref z), a3, a4, a5, a6, a7, a8] st M x = Rs L xs (d) 394 2667 [a0, a1, some (.ref z), a3, a4, a5, a6, a7, a8] (.ref z :: st) M x := Rs_next c394_2666 rfl
theorem c394_2667 : qx_code 394 2667 = some (2667, .invokevirtual 356, 2670, 309, 1, 2137) := by decide +kernel
theorem s394_2667 {L : Nat} {xs : Nat → Int32} {d x : Nat} {M : qxM} {st : List Value} {ls : qxL} {t : Nat} (hk : qx_kd t = 18) (hs : st.length ≤ 4) : Rs L xs (d + 1) 394 2667 ls (.ref t :: st) M x = (Rs L xs d 309 0 [some (.ref t)] [] M 0).bind (qx_kn L xs (d + 1) 394 2667 2670 309 ls st x) := by
  have h1 : qx_act L xs (qx_rt 394) (2667, .invokevirtual 356, 2670, 309, 1, 2137) ls (.ref t :: st) M = if 1 ≤ (.ref t :: st).length ∧ st.length ≤ 4 then some (.inr (.inr (.inr (309, [.ref t], st)))) else none := rfl
  rw [if_pos ⟨by simp [List.length_cons]; try omega, hs⟩] at h1
  have h2 := qx_kd_obj (k := 8) (by decide) hk
  exact Rs_call c394_2667 h1 (by rw [show qx_args 309 [.ref t] = decide (qx_sh t = some (.inl 8)) from rfl]; exact decide_eq_true h2)
theorem c394_2670 : qx_code 394 2670 = some (2670, .dstore 7, 2672, 0, 0, 0) := by decide +kernel
theorem s394_2670 {L : Nat} {xs : Nat → Int32} {d x : Nat} {M : qxM} {st : List Value} {a0 a1 a2 a3 a4 a5 a7 a8 : Option Value} {z : UInt64} {y : Int32} : Rs L xs (d) 394 2670 [a0, a1, a2, a3, a4, a5, some (.int y), a7, a8] (.double z :: st) M x = Rs L xs (d) 394 2672 [a0, a1, a2, a3, a4, a5, some (.int y), some (.double z), none] st M x := Rs_next c394_2670 rfl
theorem c394_2672 : qx_code 394 2672 = some (2672, .aload_n 2, 2673, 0, 0, 0) := by decide +kernel
theorem s394_2672 {L : Nat} {xs : Nat → Int32} {d x : Nat} {M : qxM} {st : List Value} {a0 a1 a3 a4 a5 a6 a7 a8 : Option Value} {z : Nat} : Rs L xs (d) 394 2672 [a0, a1, some (.ref z), a3, a4, a5, a6, a7, a8] st M x = Rs L xs (d) 394 2673 [a0, a1, some (.ref z), a3, a4, a5, a6, a7, a8] (.ref z :: st) M x := Rs_next c394_2672 rfl
theorem c394_2673 : qx_code 394 2673 = some (2673, .invokevirtual 218, 2676, 177, 1, 1613) := by decide +kernel
theorem s394_2673 {L : Nat} {xs : Nat → Int32} {d x : Nat} {M : qxM} {st : List Value} {ls : qxL} {t : Nat} (hk : qx_kd t = 18) (hs : st.length ≤ 4) : Rs L xs (d + 1) 394 2673 ls (.ref t :: st) M x = (Rs L xs d 177 0 [some (.ref t)] [] M 0).bind (qx_kn L xs (d + 1) 394 2673 2676 177 ls st x) := by
  have h1 : qx_act L xs (qx_rt 394) (2673, .invokevirtual 218, 2676, 177, 1, 1613) ls (.ref t :: st) M = if 1 ≤ (.ref t :: st).length ∧ st.length ≤ 4 then some (.inr (.inr (.inr (177, [.ref t], st)))) else none := rfl
  rw [if_pos ⟨by simp [List.length_cons]; try omega, hs⟩] at h1
  have h2 := qx_kd_obj (k := 8) (by decide) hk
  exact Rs_call c394_2673 h1 (by rw [show qx_args 177 [.ref t] = decide (qx_sh t = some (.inl 8)) from rfl]; exact decide_eq_true h2)
theorem c394_2676 : qx_code 394 2676 = some (2676, .iload 6, 2678, 0, 0, 0) := by decide +kernel
theorem s394_2676 {L : Nat} {xs : Nat → Int32} {d x : Nat} {M : qxM} {st : List Value} {a0 a1 a2 a3 a4 a5 a7 a8 : Option Value} {z : Int32} : Rs L xs (d) 394 2676 [a0, a1, a2, a3, a4, a5, some (.int z), a7, a8] st M x = Rs L xs (d) 394 2678 [a0, a1, a2, a3, a4, a5, some (.int z), a7, a8] (.int z :: st) M x := Rs_next c394_2676 rfl
theorem c394_2678 : qx_code 394 2678 = some (2678, .if_icmp .eq 5, 2681, 2683, 0, 0) := by decide +kernel
theorem s394_2678 {L : Nat} {xs : Nat → Int32} {d x : Nat} {M : qxM} {st : List Value} {ls : qxL} {z y : Int32} : Rs L xs (d) 394 2678 ls (.int y :: .int z :: st) M x = if z = y then Rs L xs (d) 394 2683 ls st M x else Rs L xs (d) 394 2681 ls st M x := Rs_ite c394_2678 rfl
theorem c394_2683 : qx_code 394 2683 = some (2683, .iload 6, 2685, 0, 0, 0) := by decide +kernel
theorem s394_2683 {L : Nat} {xs : Nat → Int32} {d x : Nat} {M : qxM} {st : List Value} {a0 a1 a2 a3 a4 a5 a7 a8 : Option Value} {z : Int32} : Rs L xs (d) 394 2683 [a0, a1, a2, a3, a4, a5, some (.int z), a7, a8] st M x = Rs L xs (d) 394 2685 [a0, a1, a2, a3, a4, a5, some (.int z), a7, a8] (.int z :: st) M x := Rs_next c394_2683 rfl
theorem c394_2685 : qx_code 394 2685 = some (2685, .ifCond .ne 35, 2688, 2720, 0, 0) := by decide +kernel
theorem s394_2685 {L : Nat} {xs : Nat → Int32} {d x : Nat} {M : qxM} {st : List Value} {ls : qxL} {z : Int32} : Rs L xs (d) 394 2685 ls (.int z :: st) M x = if z = 0 then Rs L xs (d) 394 2688 ls st M x else Rs L xs (d) 394 2720 ls st M x := Rs_ite c394_2685 rfl
theorem c394_2688 : qx_code 394 2688 = some (2688, .aload 4, 2690, 0, 0, 0) := by decide +kernel
theorem s394_2688 {L : Nat} {xs : Nat → Int32} {d x : Nat} {M : qxM} {st : List Value} {a0 a1 a2 a3 a5 a6 a7 a8 : Option Value} {z : Nat} : Rs L xs (d) 394 2688 [a0, a1, a2, a3, some (.ref z), a5, a6, a7, a8] st M x = Rs L xs (d) 394 2690 [a0, a1, a2, a3, some (.ref z), a5, a6, a7, a8] (.ref z :: st) M x := Rs_next c394_2688 rfl
theorem c394_2690 : qx_code 394 2690 = some (2690, .iconst 0, 2691, 0, 0, 0) := by decide +kernel
theorem s394_2690 {L : Nat} {xs : Nat → Int32} {d x : Nat} {M : qxM} {st : List Value} {ls : qxL} : Rs L xs (d) 394 2690 ls st M x = Rs L xs (d) 394 2691 ls (.int (nI 0) :: st) M x := Rs_next c394_2690 rfl
theorem c394_2691 : qx_code 394 2691 = some (2691, .daload, 2692, 0, 0, 0) := by decide +kernel
theorem s394_2691 {L : Nat} {xs : Nat → Int32} {d x : Nat} {M : qxM} {st : List Value} {ls : qxL} {t : Nat} {j : Int32} (hk : qx_kd t = 5) (hj : qx_ib j (qx_ln t) = true) : Rs L xs (d) 394 2691 ls (.int j :: .ref t :: st) M x = Rs L xs (d) 394 2692 ls (.double (M.2.2 j.toNatClampNeg) :: st) M x := by
  have h1 := qx_kd_row (k := 5) (by decide) hk
  exact Rs_unless (qx_ib_not hj) c394_2691 (by unfold qx_act; dsimp only; rw [h1]; rfl)
theorem c394_2692 : qx_code 394 2692 = some (2692, .dload 7, 2694, 0, 0, 0) := by decide +kernel
theorem s394_2692 {L : Nat} {xs : Nat → Int32} {d x : Nat} {M : qxM} {st : List Value} {a0 a1 a2 a3 a4 a5 a6 a8 : Option Value} {z : UInt64} : Rs L xs (d) 394 2692 [a0, a1, a2, a3, a4, a5, a6, some (.double z), a8] st M x = Rs L xs (d) 394 2694 [a0, a1, a2, a3, a4, a5, a6, some (.double z), a8] (.double z :: st) M x := Rs_next c394_2692 rfl
theorem c394_2694 : qx_code 394 2694 = some (2694, .dcmp .l, 2695, 0, 0, 0) := by decide +kernel
theorem s394_2694 {L : Nat} {xs : Nat → Int32} {d x : Nat} {M : qxM} {st : List Value} {ls : qxL} {z y : UInt64} : Rs L xs (d) 394 2694 ls (.double y :: .double z :: st) M x = Rs L xs (d) 394 2695 ls (.int (Op.cmpValue (FP.dcmp z y) .l) :: st) M x := Rs_next c394_2694 rfl
theorem c394_2695 : qx_code 394 2695 = some (2695, .ifCond .eq 25, 2698, 2720, 0, 0) := by decide +kernel
theorem s394_2695 {L : Nat} {xs : Nat → Int32} {d x : Nat} {M : qxM} {st : List Value} {ls : qxL} {z : Int32} : Rs L xs (d) 394 2695 ls (.int z :: st) M x = if z = 0 then Rs L xs (d) 394 2720 ls st M x else Rs L xs (d) 394 2698 ls st M x := Rs_ite c394_2695 rfl
theorem c394_2720 : qx_code 394 2720 = some (2720, .goto 1026, 2723, 3746, 0, 0) := by decide +kernel
theorem s394_2720 {L : Nat} {xs : Nat → Int32} {d x : Nat} {M : qxM} {st : List Value} {ls : qxL} : Rs L xs (d) 394 2720 ls st M x = Rs L xs (d) 394 3746 ls st M x := Rs_next c394_2720 rfl
theorem c394_2723 : qx_code 394 2723 = some (2723, .aload_n 1, 2724, 0, 0, 0) := by decide +kernel
theorem s394_2723 {L : Nat} {xs : Nat → Int32} {d x : Nat} {M : qxM} {st : List Value} {a0 a2 a3 a4 a5 a6 a7 a8 : Option Value} {z : Nat} : Rs L xs (d) 394 2723 [a0, some (.ref z), a2, a3, a4, a5, a6, a7, a8] st M x = Rs L xs (d) 394 2724 [a0, some (.ref z), a2, a3, a4, a5, a6, a7, a8] (.ref z :: st) M x := Rs_next c394_2723 rfl
theorem c394_2724 : qx_code 394 2724 = some (2724, .aload 4, 2726, 0, 0, 0) := by decide +kernel
theorem s394_2724 {L : Nat} {xs : Nat → Int32} {d x : Nat} {M : qxM} {st : List Value} {a0 a1 a2 a3 a5 a6 a7 a8 : Option Value} {z : Nat} : Rs L xs (d) 394 2724 [a0, a1, a2, a3, some (.ref z), a5, a6, a7, a8] st M x = Rs L xs (d) 394 2726 [a0, a1, a2, a3, some (.ref z), a5, a6, a7, a8] (.ref z :: st) M x := Rs_next c394_2724 rfl
theorem c394_2726 : qx_code 394 2726 = some (2726, .invokestatic 357, 2729, 376, 2, 1333) := by decide +kernel
theorem s394_2726 {L : Nat} {xs : Nat → Int32} {d x : Nat} {M : qxM} {st : List Value} {ls : qxL} {z0 : Nat} {z1 : Nat} (hs : st.length ≤ 4) : Rs L xs (d + 1) 394 2726 ls (.ref z1 :: .ref z0 :: st) M x = (Rs L xs d 376 0 [some (.ref z0), some (.ref z1), none] [] M 0).bind (qx_kn L xs (d + 1) 394 2726 2729 376 ls st x) := by
  have h1 : qx_act L xs (qx_rt 394) (2726, .invokestatic 357, 2729, 376, 2, 1333) ls (.ref z1 :: .ref z0 :: st) M = if 2 ≤ (.ref z1 :: .ref z0 :: st).length ∧ st.length ≤ 4 then some (.inr (.inr (.inr (376, [.ref z0, .ref z1], st)))) else none := rfl
  rw [if_pos ⟨by simp [List.length_cons]; try omega, hs⟩] at h1
  exact Rs_call c394_2726 h1 rfl
theorem c394_2729 : qx_code 394 2729 = some (2729, .istore 6, 2731, 0, 0, 0) := by decide +kernel
theorem s394_2729i {L : Nat} {xs : Nat → Int32} {d x : Nat} {M : qxM} {st : List Value} {a0 a1 a2 a3 a4 a6 a7 a8 : Option Value} {z : Int32} {y : Int32} : Rs L xs (d) 394 2729 [a0, a1, a2, a3, a4, some (.int y), a6, a7, a8] (.int z :: st) M x = Rs L xs (d) 394 2731 [a0, a1, a2, a3, a4, some (.int y), some (.int z), a7, a8] st M x := Rs_next c394_2729 rfl
theorem c394_2731 : qx_code 394 2731 = some (2731, .aload_n 2, 2732, 0, 0, 0) := by decide +kernel
theorem s394_2731 {L : Nat} {xs : Nat → Int32} {d x : Nat} {M : qxM} {st : List Value} {a0 a1 a3 a4 a5 a6 a7 a8 : Option Value} {z : Nat} : Rs L xs (d) 394 2731 [a0, a1, some (.ref z), a3, a4, a5, a6, a7, a8] st M x = Rs L xs (d) 394 2732 [a0, a1, some (.ref z), a3, a4, a5, a6, a7, a8] (.ref z :: st) M x := Rs_next c394_2731 rfl
theorem c394_2732 : qx_code 394 2732 = some (2732, .invokevirtual 359, 2735, 310, 1, 2141) := by decide +kernel
theorem s394_2732 {L : Nat} {xs : Nat → Int32} {d x : Nat} {M : qxM} {st : List Value} {ls : qxL} {t : Nat} (hk : qx_kd t = 18) (hs : st.length ≤ 4) : Rs L xs (d + 1) 394 2732 ls (.ref t :: st) M x = (Rs L xs d 310 0 [some (.ref t)] [] M 0).bind (qx_kn L xs (d + 1) 394 2732 2735 310 ls st x) := by
  have h1 : qx_act L xs (qx_rt 394) (2732, .invokevirtual 359, 2735, 310, 1, 2141) ls (.ref t :: st) M = if 1 ≤ (.ref t :: st).length ∧ st.length ≤ 4 then some (.inr (.inr (.inr (310, [.ref t], st)))) else none := rfl
  rw [if_pos ⟨by simp [List.length_cons]; try omega, hs⟩] at h1
  have h2 := qx_kd_obj (k := 8) (by decide) hk
  exact Rs_call c394_2732 h1 (by rw [show qx_args 310 [.ref t] = decide (qx_sh t = some (.inl 8)) from rfl]; exact decide_eq_true h2)
theorem c394_2735 : qx_code 394 2735 = some (2735, .fstore 7, 2737, 0, 0, 0) := by decide +kernel
theorem s394_2735i {L : Nat} {xs : Nat → Int32} {d x : Nat} {M : qxM} {st : List Value} {a0 a1 a2 a3 a4 a5 a7 a8 : Option Value} {z : UInt32} {y : Int32} : Rs L xs (d) 394 2735 [a0, a1, a2, a3, a4, a5, some (.int y), a7, a8] (.float z :: st) M x = Rs L xs (d) 394 2737 [a0, a1, a2, a3, a4, a5, some (.int y), some (.float z), a8] st M x := Rs_next c394_2735 rfl
theorem c394_2737 : qx_code 394 2737 = some (2737, .aload_n 2, 2738, 0, 0, 0) := by decide +kernel
theorem s394_2737 {L : Nat} {xs : Nat → Int32} {d x : Nat} {M : qxM} {st : List Value} {a0 a1 a3 a4 a5 a6 a7 a8 : Option Value} {z : Nat} : Rs L xs (d) 394 2737 [a0, a1, some (.ref z), a3, a4, a5, a6, a7, a8] st M x = Rs L xs (d) 394 2738 [a0, a1, some (.ref z), a3, a4, a5, a6, a7, a8] (.ref z :: st) M x := Rs_next c394_2737 rfl
theorem c394_2738 : qx_code 394 2738 = some (2738, .invokevirtual 218, 2741, 177, 1, 1613) := by decide +kernel
theorem s394_2738 {L : Nat} {xs : Nat → Int32} {d x : Nat} {M : qxM} {st : List Value} {ls : qxL} {t : Nat} (hk : qx_kd t = 18) (hs : st.length ≤ 4) : Rs L xs (d + 1) 394 2738 ls (.ref t :: st) M x = (Rs L xs d 177 0 [some (.ref t)] [] M 0).bind (qx_kn L xs (d + 1) 394 2738 2741 177 ls st x) := by
  have h1 : qx_act L xs (qx_rt 394) (2738, .invokevirtual 218, 2741, 177, 1, 1613) ls (.ref t :: st) M = if 1 ≤ (.ref t :: st).length ∧ st.length ≤ 4 then some (.inr (.inr (.inr (177, [.ref t], st)))) else none := rfl
  rw [if_pos ⟨by simp [List.length_cons]; try omega, hs⟩] at h1
  have h2 := qx_kd_obj (k := 8) (by decide) hk
  exact Rs_call c394_2738 h1 (by rw [show qx_args 177 [.ref t] = decide (qx_sh t = some (.inl 8)) from rfl]; exact decide_eq_true h2)
theorem c394_2741 : qx_code 394 2741 = some (2741, .iload 6, 2743, 0, 0, 0) := by decide +kernel
theorem s394_2741 {L : Nat} {xs : Nat → Int32} {d x : Nat} {M : qxM} {st : List Value} {a0 a1 a2 a3 a4 a5 a7 a8 : Option Value} {z : Int32} : Rs L xs (d) 394 2741 [a0, a1, a2, a3, a4, a5, some (.int z), a7, a8] st M x = Rs L xs (d) 394 2743 [a0, a1, a2, a3, a4, a5, some (.int z), a7, a8] (.int z :: st) M x := Rs_next c394_2741 rfl
theorem c394_2743 : qx_code 394 2743 = some (2743, .if_icmp .eq 5, 2746, 2748, 0, 0) := by decide +kernel
theorem s394_2743 {L : Nat} {xs : Nat → Int32} {d x : Nat} {M : qxM} {st : List Value} {ls : qxL} {z y : Int32} : Rs L xs (d) 394 2743 ls (.int y :: .int z :: st) M x = if z = y then Rs L xs (d) 394 2748 ls st M x else Rs L xs (d) 394 2746 ls st M x := Rs_ite c394_2743 rfl
theorem c394_2748 : qx_code 394 2748 = some (2748, .iload 6, 2750, 0, 0, 0) := by decide +kernel
theorem s394_2748 {L : Nat} {xs : Nat → Int32} {d x : Nat} {M : qxM} {st : List Value} {a0 a1 a2 a3 a4 a5 a7 a8 : Option Value} {z : Int32} : Rs L xs (d) 394 2748 [a0, a1, a2, a3, a4, a5, some (.int z), a7, a8] st M x = Rs L xs (d) 394 2750 [a0, a1, a2, a3, a4, a5, some (.int z), a7, a8] (.int z :: st) M x := Rs_next c394_2748 rfl
theorem c394_2750 : qx_code 394 2750 = some (2750, .ifCond .ne 36, 2753, 2786, 0, 0) := by decide +kernel
theorem s394_2750 {L : Nat} {xs : Nat → Int32} {d x : Nat} {M : qxM} {st : List Value} {ls : qxL} {z : Int32} : Rs L xs (d) 394 2750 ls (.int z :: st) M x = if z = 0 then Rs L xs (d) 394 2753 ls st M x else Rs L xs (d) 394 2786 ls st M x := Rs_ite c394_2750 rfl
theorem c394_2753 : qx_code 394 2753 = some (2753, .aload 4, 2755, 0, 0, 0) := by decide +kernel
theorem s394_2753 {L : Nat} {xs : Nat → Int32} {d x : Nat} {M : qxM} {st : List Value} {a0 a1 a2 a3 a5 a6 a7 a8 : Option Value} {z : Nat} : Rs L xs (d) 394 2753 [a0, a1, a2, a3, some (.ref z), a5, a6, a7, a8] st M x = Rs L xs (d) 394 2755 [a0, a1, a2, a3, some (.ref z), a5, a6, a7, a8] (.ref z :: st) M x := Rs_next c394_2753 rfl
theorem c394_2755 : qx_code 394 2755 = some (2755, .iconst 0, 2756, 0, 0, 0) := by decide +kernel
theorem s394_2755 {L : Nat} {xs : Nat → Int32} {d x : Nat} {M : qxM} {st : List Value} {ls : qxL} : Rs L xs (d) 394 2755 ls st M x = Rs L xs (d) 394 2756 ls (.int (nI 0) :: st) M x := Rs_next c394_2755 rfl
theorem c394_2756 : qx_code 394 2756 = some (2756, .daload, 2757, 0, 0, 0) := by decide +kernel
theorem s394_2756 {L : Nat} {xs : Nat → Int32} {d x : Nat} {M : qxM} {st : List Value} {ls : qxL} {t : Nat} {j : Int32} (hk : qx_kd t = 5) (hj : qx_ib j (qx_ln t) = true) : Rs L xs (d) 394 2756 ls (.int j :: .ref t :: st) M x = Rs L xs (d) 394 2757 ls (.double (M.2.2 j.toNatClampNeg) :: st) M x := by
  have h1 := qx_kd_row (k := 5) (by decide) hk
  exact Rs_unless (qx_ib_not hj) c394_2756 (by unfold qx_act; dsimp only; rw [h1]; rfl)
theorem c394_2757 : qx_code 394 2757 = some (2757, .fload 7, 2759, 0, 0, 0) := by decide +kernel
theorem s394_2757 {L : Nat} {xs : Nat → Int32} {d x : Nat} {M : qxM} {st : List Value} {a0 a1 a2 a3 a4 a5 a6 a8 : Option Value} {z : UInt32} : Rs L xs (d) 394 2757 [a0, a1, a2, a3, a4, a5, a6, some (.float z), a8] st M x = Rs L xs (d) 394 2759 [a0, a1, a2, a3, a4, a5, a6, some (.float z), a8] (.float z :: st) M x := Rs_next c394_2757 rfl
theorem c394_2759 : qx_code 394 2759 = some (2759, .f2d, 2760, 0, 0, 0) := by decide +kernel
theorem s394_2759 {L : Nat} {xs : Nat → Int32} {d x : Nat} {M : qxM} {st : List Value} {ls : qxL} {z : UInt32} (h : FP.f2d z &&& 0x7fffffffffffffff ≤ 0x7ff0000000000000) : Rs L xs (d) 394 2759 ls (.float z :: st) M x = Rs L xs (d) 394 2760 ls (.double (FP.f2d z) :: st) M x := Rs_when h c394_2759 rfl
theorem c394_2760 : qx_code 394 2760 = some (2760, .dcmp .l, 2761, 0, 0, 0) := by decide +kernel
theorem s394_2760 {L : Nat} {xs : Nat → Int32} {d x : Nat} {M : qxM} {st : List Value} {ls : qxL} {z y : UInt64} : Rs L xs (d) 394 2760 ls (.double y :: .double z :: st) M x = Rs L xs (d) 394 2761 ls (.int (Op.cmpValue (FP.dcmp z y) .l) :: st) M x := Rs_next c394_2760 rfl
theorem c394_2761 : qx_code 394 2761 = some (2761, .ifCond .eq 25, 2764, 2786, 0, 0) := by decide +kernel
theorem s394_2761 {L : Nat} {xs : Nat → Int32} {d x : Nat} {M : qxM} {st : List Value} {ls : qxL} {z : Int32} : Rs L xs (d) 394 2761 ls (.int z :: st) M x = if z = 0 then Rs L xs (d) 394 2786 ls st M x else Rs L xs (d) 394 2764 ls st M x := Rs_ite c394_2761 rfl
theorem c394_2786 : qx_code 394 2786 = some (2786, .goto 960, 2789, 3746, 0, 0) := by decide +kernel
theorem s394_2786 {L : Nat} {xs : Nat → Int32} {d x : Nat} {M : qxM} {st : List Value} {ls : qxL} : Rs L xs (d) 394 2786 ls st M x = Rs L xs (d) 394 3746 ls st M x := Rs_next c394_2786 rfl
theorem c394_2789 : qx_code 394 2789 = some (2789, .aload_n 1, 2790, 0, 0, 0) := by decide +kernel
theorem s394_2789 {L : Nat} {xs : Nat → Int32} {d x : Nat} {M : qxM} {st : List Value} {a0 a2 a3 a4 a5 a6 a7 a8 : Option Value} {z : Nat} : Rs L xs (d) 394 2789 [a0, some (.ref z), a2, a3, a4, a5, a6, a7, a8] st M x = Rs L xs (d) 394 2790 [a0, some (.ref z), a2, a3, a4, a5, a6, a7, a8] (.ref z :: st) M x := Rs_next c394_2789 rfl
theorem c394_2790 : qx_code 394 2790 = some (2790, .aload_n 3, 2791, 0, 0, 0) := by decide +kernel
theorem s394_2790 {L : Nat} {xs : Nat → Int32} {d x : Nat} {M : qxM} {st : List Value} {a0 a1 a2 a4 a5 a6 a7 a8 : Option Value} {z : Nat} : Rs L xs (d) 394 2790 [a0, a1, a2, some (.ref z), a4, a5, a6, a7, a8] st M x = Rs L xs (d) 394 2791 [a0, a1, a2, some (.ref z), a4, a5, a6, a7, a8] (.ref z :: st) M x := Rs_next c394_2790 rfl
theorem c394_2791 : qx_code 394 2791 = some (2791, .invokestatic 360, 2794, 377, 2, 1340) := by decide +kernel
theorem s394_2791 {L : Nat} {xs : Nat → Int32} {d x : Nat} {M : qxM} {st : List Value} {ls : qxL} {z0 : Nat} {z1 : Nat} (hs : st.length ≤ 4) : Rs L xs (d + 1) 394 2791 ls (.ref z1 :: .ref z0 :: st) M x = (Rs L xs d 377 0 [some (.ref z0), some (.ref z1), none] [] M 0).bind (qx_kn L xs (d + 1) 394 2791 2794 377 ls st x) := by
  have h1 : qx_act L xs (qx_rt 394) (2791, .invokestatic 360, 2794, 377, 2, 1340) ls (.ref z1 :: .ref z0 :: st) M = if 2 ≤ (.ref z1 :: .ref z0 :: st).length ∧ st.length ≤ 4 then some (.inr (.inr (.inr (377, [.ref z0, .ref z1], st)))) else none := rfl
  rw [if_pos ⟨by simp [List.length_cons]; try omega, hs⟩] at h1
  exact Rs_call c394_2791 h1 rfl
theorem c394_2794 : qx_code 394 2794 = some (2794, .istore 6, 2796, 0, 0, 0) := by decide +kernel
theorem s394_2794i {L : Nat} {xs : Nat → Int32} {d x : Nat} {M : qxM} {st : List Value} {a0 a1 a2 a3 a4 a6 a7 a8 : Option Value} {z : Int32} {y : Int32} : Rs L xs (d) 394 2794 [a0, a1, a2, a3, a4, some (.int y), a6, a7, a8] (.int z :: st) M x = Rs L xs (d) 394 2796 [a0, a1, a2, a3, a4, some (.int y), some (.int z), a7, a8] st M x := Rs_next c394_2794 rfl
theorem c394_2796 : qx_code 394 2796 = some (2796, .aload_n 2, 2797, 0, 0, 0) := by decide +kernel
theorem s394_2796 {L : Nat} {xs : Nat → Int32} {d x : Nat} {M : qxM} {st : List Value} {a0 a1 a3 a4 a5 a6 a7 a8 : Option Value} {z : Nat} : Rs L xs (d) 394 2796 [a0, a1, some (.ref z), a3, a4, a5, a6, a7, a8] st M x = Rs L xs (d) 394 2797 [a0, a1, some (.ref z), a3, a4, a5, a6, a7, a8] (.ref z :: st) M x := Rs_next c394_2796 rfl
theorem c394_2797 : qx_code 394 2797 = some (2797, .invokevirtual 362, 2800, 313, 1, 2145) := by decide +kernel
theorem s394_2797 {L : Nat} {xs : Nat → Int32} {d x : Nat} {M : qxM} {st : List Value} {ls : qxL} {t : Nat} (hk : qx_kd t = 18) (hs : st.length ≤ 4) : Rs L xs (d + 1) 394 2797 ls (.ref t :: st) M x = (Rs L xs d 313 0 [some (.ref t), none] [] M 0).bind (qx_kn L xs (d + 1) 394 2797 2800 313 ls st x) := by
  have h1 : qx_act L xs (qx_rt 394) (2797, .invokevirtual 362, 2800, 313, 1, 2145) ls (.ref t :: st) M = if 1 ≤ (.ref t :: st).length ∧ st.length ≤ 4 then some (.inr (.inr (.inr (313, [.ref t], st)))) else none := rfl
  rw [if_pos ⟨by simp [List.length_cons]; try omega, hs⟩] at h1
  have h2 := qx_kd_obj (k := 8) (by decide) hk
  exact Rs_call c394_2797 h1 (by rw [show qx_args 313 [.ref t] = decide (qx_sh t = some (.inl 8)) from rfl]; exact decide_eq_true h2)
theorem c394_2800 : qx_code 394 2800 = some (2800, .istore 7, 2802, 0, 0, 0) := by decide +kernel
theorem s394_2800i {L : Nat} {xs : Nat → Int32} {d x : Nat} {M : qxM} {st : List Value} {a0 a1 a2 a3 a4 a5 a7 a8 : Option Value} {z : Int32} {y : Int32} : Rs L xs (d) 394 2800 [a0, a1, a2, a3, a4, a5, some (.int y), a7, a8] (.int z :: st) M x = Rs L xs (d) 394 2802 [a0, a1, a2, a3, a4, a5, some (.int y), some (.int z), a8] st M x := Rs_next c394_2800 rfl
theorem c394_2802 : qx_code 394 2802 = some (2802, .aload_n 2, 2803, 0, 0, 0) := by decide +kernel
theorem s394_2802 {L : Nat} {xs : Nat → Int32} {d x : Nat} {M : qxM} {st : List Value} {a0 a1 a3 a4 a5 a6 a7 a8 : Option Value} {z : Nat} : Rs L xs (d) 394 2802 [a0, a1, some (.ref z), a3, a4, a5, a6, a7, a8] st M x = Rs L xs (d) 394 2803 [a0, a1, some (.ref z), a3, a4, a5, a6, a7, a8] (.ref z :: st) M x := Rs_next c394_2802 rfl
theorem c394_2803 : qx_code 394 2803 = some (2803, .invokevirtual 218, 2806, 177, 1, 1613) := by decide +kernel
theorem s394_2803 {L : Nat} {xs : Nat → Int32} {d x : Nat} {M : qxM} {st : List Value} {ls : qxL} {t : Nat} (hk : qx_kd t = 18) (hs : st.length ≤ 4) : Rs L xs (d + 1) 394 2803 ls (.ref t :: st) M x = (Rs L xs d 177 0 [some (.ref t)] [] M 0).bind (qx_kn L xs (d + 1) 394 2803 2806 177 ls st x) := by
  have h1 : qx_act L xs (qx_rt 394) (2803, .invokevirtual 218, 2806, 177, 1, 1613) ls (.ref t :: st) M = if 1 ≤ (.ref t :: st).length ∧ st.length ≤ 4 then some (.inr (.inr (.inr (177, [.ref t], st)))) else none := rfl
  rw [if_pos ⟨by simp [List.length_cons]; try omega, hs⟩] at h1
  have h2 := qx_kd_obj (k := 8) (by decide) hk
  exact Rs_call c394_2803 h1 (by rw [show qx_args 177 [.ref t] = decide (qx_sh t = some (.inl 8)) from rfl]; exact decide_eq_true h2)
theorem c394_2806 : qx_code 394 2806 = some (2806, .iload 6, 2808, 0, 0, 0) := by decide +kernel
theorem s394_2806 {L : Nat} {xs : Nat → Int32} {d x : Nat} {M : qxM} {st : List Value} {a0 a1 a2 a3 a4 a5 a7 a8 : Option Value} {z : Int32} : Rs L xs (d) 394 2806 [a0, a1, a2, a3, a4, a5, some (.int z), a7, a8] st M x = Rs L xs (d) 394 2808 [a0, a1, a2, a3, a4, a5, some (.int z), a7, a8] (.int z :: st) M x := Rs_next c394_2806 rfl
theorem c394_2808 : qx_code 394 2808 = some (2808, .if_icmp .eq 5, 2811, 2813, 0, 0) := by decide +kernel
theorem s394_2808 {L : Nat} {xs : Nat → Int32} {d x : Nat} {M : qxM} {st : List Value} {ls : qxL} {z y : Int32} : Rs L xs (d) 394 2808 ls (.int y :: .int z :: st) M x = if z = y then Rs L xs (d) 394 2813 ls st M x else Rs L xs (d) 394 2811 ls st M x := Rs_ite c394_2808 rfl
theorem c394_2813 : qx_code 394 2813 = some (2813, .iload 6, 2815, 0, 0, 0) := by decide +kernel
theorem s394_2813 {L : Nat} {xs : Nat → Int32} {d x : Nat} {M : qxM} {st : List Value} {a0 a1 a2 a3 a4 a5 a7 a8 : Option Value} {z : Int32} : Rs L xs (d) 394 2813 [a0, a1, a2, a3, a4, a5, some (.int z), a7, a8] st M x = Rs L xs (d) 394 2815 [a0, a1, a2, a3, a4, a5, some (.int z), a7, a8] (.int z :: st) M x := Rs_next c394_2813 rfl
theorem c394_2815 : qx_code 394 2815 = some (2815, .ifCond .ne 15, 2818, 2830, 0, 0) := by decide +kernel
theorem s394_2815 {L : Nat} {xs : Nat → Int32} {d x : Nat} {M : qxM} {st : List Value} {ls : qxL} {z : Int32} : Rs L xs (d) 394 2815 ls (.int z :: st) M x = if z = 0 then Rs L xs (d) 394 2818 ls st M x else Rs L xs (d) 394 2830 ls st M x := Rs_ite c394_2815 rfl
theorem c394_2818 : qx_code 394 2818 = some (2818, .aload_n 3, 2819, 0, 0, 0) := by decide +kernel
theorem s394_2818 {L : Nat} {xs : Nat → Int32} {d x : Nat} {M : qxM} {st : List Value} {a0 a1 a2 a4 a5 a6 a7 a8 : Option Value} {z : Nat} : Rs L xs (d) 394 2818 [a0, a1, a2, some (.ref z), a4, a5, a6, a7, a8] st M x = Rs L xs (d) 394 2819 [a0, a1, a2, some (.ref z), a4, a5, a6, a7, a8] (.ref z :: st) M x := Rs_next c394_2818 rfl
theorem c394_2819 : qx_code 394 2819 = some (2819, .iconst 0, 2820, 0, 0, 0) := by decide +kernel
theorem s394_2819 {L : Nat} {xs : Nat → Int32} {d x : Nat} {M : qxM} {st : List Value} {ls : qxL} : Rs L xs (d) 394 2819 ls st M x = Rs L xs (d) 394 2820 ls (.int (nI 0) :: st) M x := Rs_next c394_2819 rfl
theorem c394_2820 : qx_code 394 2820 = some (2820, .laload, 2821, 0, 0, 0) := by decide +kernel
theorem s394_2820 {L : Nat} {xs : Nat → Int32} {d x : Nat} {M : qxM} {st : List Value} {ls : qxL} {t : Nat} {j : Int32} (hk : qx_kd t = 4) (hj : qx_ib j (qx_ln t) = true) : Rs L xs (d) 394 2820 ls (.int j :: .ref t :: st) M x = Rs L xs (d) 394 2821 ls (.long (M.2.1 j.toNatClampNeg) :: st) M x := by
  have h1 := qx_kd_row (k := 4) (by decide) hk
  exact Rs_unless (qx_ib_not hj) c394_2820 (by unfold qx_act; dsimp only; rw [h1]; rfl)
theorem c394_2821 : qx_code 394 2821 = some (2821, .iload 7, 2823, 0, 0, 0) := by decide +kernel
theorem s394_2821 {L : Nat} {xs : Nat → Int32} {d x : Nat} {M : qxM} {st : List Value} {a0 a1 a2 a3 a4 a5 a6 a8 : Option Value} {z : Int32} : Rs L xs (d) 394 2821 [a0, a1, a2, a3, a4, a5, a6, some (.int z), a8] st M x = Rs L xs (d) 394 2823 [a0, a1, a2, a3, a4, a5, a6, some (.int z), a8] (.int z :: st) M x := Rs_next c394_2821 rfl
theorem c394_2823 : qx_code 394 2823 = some (2823, .i2l, 2824, 0, 0, 0) := by decide +kernel
theorem s394_2823 {L : Nat} {xs : Nat → Int32} {d x : Nat} {M : qxM} {st : List Value} {ls : qxL} {z : Int32} : Rs L xs (d) 394 2823 ls (.int z :: st) M x = Rs L xs (d) 394 2824 ls (.long z.toInt64 :: st) M x := Rs_next c394_2823 rfl
theorem c394_2824 : qx_code 394 2824 = some (2824, .lcmp, 2825, 0, 0, 0) := by decide +kernel
theorem s394_2824 {L : Nat} {xs : Nat → Int32} {d x : Nat} {M : qxM} {st : List Value} {ls : qxL} {z y : Int64} : Rs L xs (d) 394 2824 ls (.long y :: .long z :: st) M x = Rs L xs (d) 394 2825 ls (.int (lg_cmp z y) :: st) M x := Rs_next c394_2824 rfl
theorem c394_2825 : qx_code 394 2825 = some (2825, .ifCond .eq 5, 2828, 2830, 0, 0) := by decide +kernel
theorem s394_2825 {L : Nat} {xs : Nat → Int32} {d x : Nat} {M : qxM} {st : List Value} {ls : qxL} {z : Int32} : Rs L xs (d) 394 2825 ls (.int z :: st) M x = if z = 0 then Rs L xs (d) 394 2830 ls st M x else Rs L xs (d) 394 2828 ls st M x := Rs_ite c394_2825 rfl
theorem c394_2830 : qx_code 394 2830 = some (2830, .goto 916, 2833, 3746, 0, 0) := by decide +kernel
theorem s394_2830 {L : Nat} {xs : Nat → Int32} {d x : Nat} {M : qxM} {st : List Value} {ls : qxL} : Rs L xs (d) 394 2830 ls st M x = Rs L xs (d) 394 3746 ls st M x := Rs_next c394_2830 rfl
theorem c394_2833 : qx_code 394 2833 = some (2833, .aload_n 1, 2834, 0, 0, 0) := by decide +kernel
theorem s394_2833 {L : Nat} {xs : Nat → Int32} {d x : Nat} {M : qxM} {st : List Value} {a0 a2 a3 a4 a5 a6 a7 a8 : Option Value} {z : Nat} : Rs L xs (d) 394 2833 [a0, some (.ref z), a2, a3, a4, a5, a6, a7, a8] st M x = Rs L xs (d) 394 2834 [a0, some (.ref z), a2, a3, a4, a5, a6, a7, a8] (.ref z :: st) M x := Rs_next c394_2833 rfl
theorem c394_2834 : qx_code 394 2834 = some (2834, .aload_n 3, 2835, 0, 0, 0) := by decide +kernel
theorem s394_2834 {L : Nat} {xs : Nat → Int32} {d x : Nat} {M : qxM} {st : List Value} {a0 a1 a2 a4 a5 a6 a7 a8 : Option Value} {z : Nat} : Rs L xs (d) 394 2834 [a0, a1, a2, some (.ref z), a4, a5, a6, a7, a8] st M x = Rs L xs (d) 394 2835 [a0, a1, a2, some (.ref z), a4, a5, a6, a7, a8] (.ref z :: st) M x := Rs_next c394_2834 rfl
theorem c394_2835 : qx_code 394 2835 = some (2835, .invokestatic 363, 2838, 378, 2, 1368) := by decide +kernel
theorem s394_2835 {L : Nat} {xs : Nat → Int32} {d x : Nat} {M : qxM} {st : List Value} {ls : qxL} {z0 : Nat} {z1 : Nat} (hs : st.length ≤ 4) : Rs L xs (d + 1) 394 2835 ls (.ref z1 :: .ref z0 :: st) M x = (Rs L xs d 378 0 [some (.ref z0), some (.ref z1), none] [] M 0).bind (qx_kn L xs (d + 1) 394 2835 2838 378 ls st x) := by
  have h1 : qx_act L xs (qx_rt 394) (2835, .invokestatic 363, 2838, 378, 2, 1368) ls (.ref z1 :: .ref z0 :: st) M = if 2 ≤ (.ref z1 :: .ref z0 :: st).length ∧ st.length ≤ 4 then some (.inr (.inr (.inr (378, [.ref z0, .ref z1], st)))) else none := rfl
  rw [if_pos ⟨by simp [List.length_cons]; try omega, hs⟩] at h1
  exact Rs_call c394_2835 h1 rfl
theorem c394_2838 : qx_code 394 2838 = some (2838, .istore 6, 2840, 0, 0, 0) := by decide +kernel
theorem s394_2838i {L : Nat} {xs : Nat → Int32} {d x : Nat} {M : qxM} {st : List Value} {a0 a1 a2 a3 a4 a6 a7 a8 : Option Value} {z : Int32} {y : Int32} : Rs L xs (d) 394 2838 [a0, a1, a2, a3, a4, some (.int y), a6, a7, a8] (.int z :: st) M x = Rs L xs (d) 394 2840 [a0, a1, a2, a3, a4, some (.int y), some (.int z), a7, a8] st M x := Rs_next c394_2838 rfl
theorem c394_2840 : qx_code 394 2840 = some (2840, .aload_n 2, 2841, 0, 0, 0) := by decide +kernel
theorem s394_2840 {L : Nat} {xs : Nat → Int32} {d x : Nat} {M : qxM} {st : List Value} {a0 a1 a3 a4 a5 a6 a7 a8 : Option Value} {z : Nat} : Rs L xs (d) 394 2840 [a0, a1, some (.ref z), a3, a4, a5, a6, a7, a8] st M x = Rs L xs (d) 394 2841 [a0, a1, some (.ref z), a3, a4, a5, a6, a7, a8] (.ref z :: st) M x := Rs_next c394_2840 rfl
theorem c394_2841 : qx_code 394 2841 = some (2841, .invokevirtual 365, 2844, 315, 1, 2157) := by decide +kernel
theorem s394_2841 {L : Nat} {xs : Nat → Int32} {d x : Nat} {M : qxM} {st : List Value} {ls : qxL} {t : Nat} (hk : qx_kd t = 18) (hs : st.length ≤ 4) : Rs L xs (d + 1) 394 2841 ls (.ref t :: st) M x = (Rs L xs d 315 0 [some (.ref t), none, none] [] M 0).bind (qx_kn L xs (d + 1) 394 2841 2844 315 ls st x) := by
  have h1 : qx_act L xs (qx_rt 394) (2841, .invokevirtual 365, 2844, 315, 1, 2157) ls (.ref t :: st) M = if 1 ≤ (.ref t :: st).length ∧ st.length ≤ 4 then some (.inr (.inr (.inr (315, [.ref t], st)))) else none := rfl
  rw [if_pos ⟨by simp [List.length_cons]; try omega, hs⟩] at h1
  have h2 := qx_kd_obj (k := 8) (by decide) hk
  exact Rs_call c394_2841 h1 (by rw [show qx_args 315 [.ref t] = decide (qx_sh t = some (.inl 8)) from rfl]; exact decide_eq_true h2)
theorem c394_2844 : qx_code 394 2844 = some (2844, .istore 7, 2846, 0, 0, 0) := by decide +kernel
theorem s394_2844i {L : Nat} {xs : Nat → Int32} {d x : Nat} {M : qxM} {st : List Value} {a0 a1 a2 a3 a4 a5 a7 a8 : Option Value} {z : Int32} {y : Int32} : Rs L xs (d) 394 2844 [a0, a1, a2, a3, a4, a5, some (.int y), a7, a8] (.int z :: st) M x = Rs L xs (d) 394 2846 [a0, a1, a2, a3, a4, a5, some (.int y), some (.int z), a8] st M x := Rs_next c394_2844 rfl
theorem c394_2846 : qx_code 394 2846 = some (2846, .aload_n 2, 2847, 0, 0, 0) := by decide +kernel
theorem s394_2846 {L : Nat} {xs : Nat → Int32} {d x : Nat} {M : qxM} {st : List Value} {a0 a1 a3 a4 a5 a6 a7 a8 : Option Value} {z : Nat} : Rs L xs (d) 394 2846 [a0, a1, some (.ref z), a3, a4, a5, a6, a7, a8] st M x = Rs L xs (d) 394 2847 [a0, a1, some (.ref z), a3, a4, a5, a6, a7, a8] (.ref z :: st) M x := Rs_next c394_2846 rfl
theorem c394_2847 : qx_code 394 2847 = some (2847, .invokevirtual 218, 2850, 177, 1, 1613) := by decide +kernel
theorem s394_2847 {L : Nat} {xs : Nat → Int32} {d x : Nat} {M : qxM} {st : List Value} {ls : qxL} {t : Nat} (hk : qx_kd t = 18) (hs : st.length ≤ 4) : Rs L xs (d + 1) 394 2847 ls (.ref t :: st) M x = (Rs L xs d 177 0 [some (.ref t)] [] M 0).bind (qx_kn L xs (d + 1) 394 2847 2850 177 ls st x) := by
  have h1 : qx_act L xs (qx_rt 394) (2847, .invokevirtual 218, 2850, 177, 1, 1613) ls (.ref t :: st) M = if 1 ≤ (.ref t :: st).length ∧ st.length ≤ 4 then some (.inr (.inr (.inr (177, [.ref t], st)))) else none := rfl
  rw [if_pos ⟨by simp [List.length_cons]; try omega, hs⟩] at h1
  have h2 := qx_kd_obj (k := 8) (by decide) hk
  exact Rs_call c394_2847 h1 (by rw [show qx_args 177 [.ref t] = decide (qx_sh t = some (.inl 8)) from rfl]; exact decide_eq_true h2)
theorem c394_2850 : qx_code 394 2850 = some (2850, .iload 6, 2852, 0, 0, 0) := by decide +kernel
theorem s394_2850 {L : Nat} {xs : Nat → Int32} {d x : Nat} {M : qxM} {st : List Value} {a0 a1 a2 a3 a4 a5 a7 a8 : Option Value} {z : Int32} : Rs L xs (d) 394 2850 [a0, a1, a2, a3, a4, a5, some (.int z), a7, a8] st M x = Rs L xs (d) 394 2852 [a0, a1, a2, a3, a4, a5, some (.int z), a7, a8] (.int z :: st) M x := Rs_next c394_2850 rfl
theorem c394_2852 : qx_code 394 2852 = some (2852, .if_icmp .eq 5, 2855, 2857, 0, 0) := by decide +kernel
theorem s394_2852 {L : Nat} {xs : Nat → Int32} {d x : Nat} {M : qxM} {st : List Value} {ls : qxL} {z y : Int32} : Rs L xs (d) 394 2852 ls (.int y :: .int z :: st) M x = if z = y then Rs L xs (d) 394 2857 ls st M x else Rs L xs (d) 394 2855 ls st M x := Rs_ite c394_2852 rfl
theorem c394_2857 : qx_code 394 2857 = some (2857, .iload 6, 2859, 0, 0, 0) := by decide +kernel
theorem s394_2857 {L : Nat} {xs : Nat → Int32} {d x : Nat} {M : qxM} {st : List Value} {a0 a1 a2 a3 a4 a5 a7 a8 : Option Value} {z : Int32} : Rs L xs (d) 394 2857 [a0, a1, a2, a3, a4, a5, some (.int z), a7, a8] st M x = Rs L xs (d) 394 2859 [a0, a1, a2, a3, a4, a5, some (.int z), a7, a8] (.int z :: st) M x := Rs_next c394_2857 rfl
theorem c394_2859 : qx_code 394 2859 = some (2859, .ifCond .ne 15, 2862, 2874, 0, 0) := by decide +kernel
theorem s394_2859 {L : Nat} {xs : Nat → Int32} {d x : Nat} {M : qxM} {st : List Value} {ls : qxL} {z : Int32} : Rs L xs (d) 394 2859 ls (.int z :: st) M x = if z = 0 then Rs L xs (d) 394 2862 ls st M x else Rs L xs (d) 394 2874 ls st M x := Rs_ite c394_2859 rfl
theorem c394_2862 : qx_code 394 2862 = some (2862, .aload_n 3, 2863, 0, 0, 0) := by decide +kernel
theorem s394_2862 {L : Nat} {xs : Nat → Int32} {d x : Nat} {M : qxM} {st : List Value} {a0 a1 a2 a4 a5 a6 a7 a8 : Option Value} {z : Nat} : Rs L xs (d) 394 2862 [a0, a1, a2, some (.ref z), a4, a5, a6, a7, a8] st M x = Rs L xs (d) 394 2863 [a0, a1, a2, some (.ref z), a4, a5, a6, a7, a8] (.ref z :: st) M x := Rs_next c394_2862 rfl
theorem c394_2863 : qx_code 394 2863 = some (2863, .iconst 0, 2864, 0, 0, 0) := by decide +kernel
theorem s394_2863 {L : Nat} {xs : Nat → Int32} {d x : Nat} {M : qxM} {st : List Value} {ls : qxL} : Rs L xs (d) 394 2863 ls st M x = Rs L xs (d) 394 2864 ls (.int (nI 0) :: st) M x := Rs_next c394_2863 rfl
theorem c394_2864 : qx_code 394 2864 = some (2864, .laload, 2865, 0, 0, 0) := by decide +kernel
theorem s394_2864 {L : Nat} {xs : Nat → Int32} {d x : Nat} {M : qxM} {st : List Value} {ls : qxL} {t : Nat} {j : Int32} (hk : qx_kd t = 4) (hj : qx_ib j (qx_ln t) = true) : Rs L xs (d) 394 2864 ls (.int j :: .ref t :: st) M x = Rs L xs (d) 394 2865 ls (.long (M.2.1 j.toNatClampNeg) :: st) M x := by
  have h1 := qx_kd_row (k := 4) (by decide) hk
  exact Rs_unless (qx_ib_not hj) c394_2864 (by unfold qx_act; dsimp only; rw [h1]; rfl)
theorem c394_2865 : qx_code 394 2865 = some (2865, .iload 7, 2867, 0, 0, 0) := by decide +kernel
theorem s394_2865 {L : Nat} {xs : Nat → Int32} {d x : Nat} {M : qxM} {st : List Value} {a0 a1 a2 a3 a4 a5 a6 a8 : Option Value} {z : Int32} : Rs L xs (d) 394 2865 [a0, a1, a2, a3, a4, a5, a6, some (.int z), a8] st M x = Rs L xs (d) 394 2867 [a0, a1, a2, a3, a4, a5, a6, some (.int z), a8] (.int z :: st) M x := Rs_next c394_2865 rfl
theorem c394_2867 : qx_code 394 2867 = some (2867, .i2l, 2868, 0, 0, 0) := by decide +kernel
theorem s394_2867 {L : Nat} {xs : Nat → Int32} {d x : Nat} {M : qxM} {st : List Value} {ls : qxL} {z : Int32} : Rs L xs (d) 394 2867 ls (.int z :: st) M x = Rs L xs (d) 394 2868 ls (.long z.toInt64 :: st) M x := Rs_next c394_2867 rfl
theorem c394_2868 : qx_code 394 2868 = some (2868, .lcmp, 2869, 0, 0, 0) := by decide +kernel
theorem s394_2868 {L : Nat} {xs : Nat → Int32} {d x : Nat} {M : qxM} {st : List Value} {ls : qxL} {z y : Int64} : Rs L xs (d) 394 2868 ls (.long y :: .long z :: st) M x = Rs L xs (d) 394 2869 ls (.int (lg_cmp z y) :: st) M x := Rs_next c394_2868 rfl
theorem c394_2869 : qx_code 394 2869 = some (2869, .ifCond .eq 5, 2872, 2874, 0, 0) := by decide +kernel
theorem s394_2869 {L : Nat} {xs : Nat → Int32} {d x : Nat} {M : qxM} {st : List Value} {ls : qxL} {z : Int32} : Rs L xs (d) 394 2869 ls (.int z :: st) M x = if z = 0 then Rs L xs (d) 394 2874 ls st M x else Rs L xs (d) 394 2872 ls st M x := Rs_ite c394_2869 rfl
theorem c394_2874 : qx_code 394 2874 = some (2874, .goto 872, 2877, 3746, 0, 0) := by decide +kernel
theorem s394_2874 {L : Nat} {xs : Nat → Int32} {d x : Nat} {M : qxM} {st : List Value} {ls : qxL} : Rs L xs (d) 394 2874 ls st M x = Rs L xs (d) 394 3746 ls st M x := Rs_next c394_2874 rfl
theorem c394_2877 : qx_code 394 2877 = some (2877, .aload_n 1, 2878, 0, 0, 0) := by decide +kernel
theorem s394_2877 {L : Nat} {xs : Nat → Int32} {d x : Nat} {M : qxM} {st : List Value} {a0 a2 a3 a4 a5 a6 a7 a8 : Option Value} {z : Nat} : Rs L xs (d) 394 2877 [a0, some (.ref z), a2, a3, a4, a5, a6, a7, a8] st M x = Rs L xs (d) 394 2878 [a0, some (.ref z), a2, a3, a4, a5, a6, a7, a8] (.ref z :: st) M x := Rs_next c394_2877 rfl
theorem c394_2878 : qx_code 394 2878 = some (2878, .aload_n 0, 2879, 0, 0, 0) := by decide +kernel
theorem s394_2878 {L : Nat} {xs : Nat → Int32} {d x : Nat} {M : qxM} {st : List Value} {a1 a2 a3 a4 a5 a6 a7 a8 : Option Value} {z : Nat} : Rs L xs (d) 394 2878 [some (.ref z), a1, a2, a3, a4, a5, a6, a7, a8] st M x = Rs L xs (d) 394 2879 [some (.ref z), a1, a2, a3, a4, a5, a6, a7, a8] (.ref z :: st) M x := Rs_next c394_2878 rfl
theorem c394_2879 : qx_code 394 2879 = some (2879, .iload 5, 2881, 0, 0, 0) := by decide +kernel
theorem s394_2879 {L : Nat} {xs : Nat → Int32} {d x : Nat} {M : qxM} {st : List Value} {a0 a1 a2 a3 a4 a6 a7 a8 : Option Value} {z : Int32} : Rs L xs (d) 394 2879 [a0, a1, a2, a3, a4, some (.int z), a6, a7, a8] st M x = Rs L xs (d) 394 2881 [a0, a1, a2, a3, a4, some (.int z), a6, a7, a8] (.int z :: st) M x := Rs_next c394_2879 rfl
theorem c394_2881 : qx_code 394 2881 = some (2881, .iconst 1, 2882, 0, 0, 0) := by decide +kernel
theorem s394_2881 {L : Nat} {xs : Nat → Int32} {d x : Nat} {M : qxM} {st : List Value} {ls : qxL} : Rs L xs (d) 394 2881 ls st M x = Rs L xs (d) 394 2882 ls (.int (nI 1) :: st) M x := Rs_next c394_2881 rfl
theorem c394_2882 : qx_code 394 2882 = some (2882, .iadd, 2883, 0, 0, 0) := by decide +kernel
theorem s394_2882 {L : Nat} {xs : Nat → Int32} {d x : Nat} {M : qxM} {st : List Value} {ls : qxL} {z y : Int32} : Rs L xs (d) 394 2882 ls (.int y :: .int z :: st) M x = Rs L xs (d) 394 2883 ls (.int (z + y) :: st) M x := Rs_next c394_2882 rfl
theorem c394_2883 : qx_code 394 2883 = some (2883, .iaload, 2884, 0, 0, 0) := by decide +kernel
theorem s394_2883s {L : Nat} {xs : Nat → Int32} {d x : Nat} {M : qxM} {st : List Value} {ls : qxL} {j : Int32} (hj : qx_ib j L = true) : Rs L xs (d) 394 2883 ls (.int j :: .ref 1 :: st) M x = Rs L xs (d) 394 2884 ls (.int (xs j.toNatClampNeg) :: st) M x := Rs_unless (qx_ib_not hj) c394_2883 rfl
theorem c394_2884 : qx_code 394 2884 = some (2884, .aload_n 3, 2885, 0, 0, 0) := by decide +kernel
theorem s394_2884 {L : Nat} {xs : Nat → Int32} {d x : Nat} {M : qxM} {st : List Value} {a0 a1 a2 a4 a5 a6 a7 a8 : Option Value} {z : Nat} : Rs L xs (d) 394 2884 [a0, a1, a2, some (.ref z), a4, a5, a6, a7, a8] st M x = Rs L xs (d) 394 2885 [a0, a1, a2, some (.ref z), a4, a5, a6, a7, a8] (.ref z :: st) M x := Rs_next c394_2884 rfl
theorem c394_2885 : qx_code 394 2885 = some (2885, .invokestatic 366, 2888, 379, 3, 1382) := by decide +kernel
theorem s394_2885 {L : Nat} {xs : Nat → Int32} {d x : Nat} {M : qxM} {st : List Value} {ls : qxL} {z0 : Nat} {z1 : Int32} {z2 : Nat} (hs : st.length ≤ 4) : Rs L xs (d + 1) 394 2885 ls (.ref z2 :: .int z1 :: .ref z0 :: st) M x = (Rs L xs d 379 0 [some (.ref z0), some (.int z1), some (.ref z2), none] [] M 0).bind (qx_kn L xs (d + 1) 394 2885 2888 379 ls st x) := by
  have h1 : qx_act L xs (qx_rt 394) (2885, .invokestatic 366, 2888, 379, 3, 1382) ls (.ref z2 :: .int z1 :: .ref z0 :: st) M = if 3 ≤ (.ref z2 :: .int z1 :: .ref z0 :: st).length ∧ st.length ≤ 4 then some (.inr (.inr (.inr (379, [.ref z0, .int z1, .ref z2], st)))) else none := rfl
  rw [if_pos ⟨by simp [List.length_cons]; try omega, hs⟩] at h1
  exact Rs_call c394_2885 h1 rfl
theorem c394_2888 : qx_code 394 2888 = some (2888, .istore 6, 2890, 0, 0, 0) := by decide +kernel
theorem s394_2888i {L : Nat} {xs : Nat → Int32} {d x : Nat} {M : qxM} {st : List Value} {a0 a1 a2 a3 a4 a6 a7 a8 : Option Value} {z : Int32} {y : Int32} : Rs L xs (d) 394 2888 [a0, a1, a2, a3, a4, some (.int y), a6, a7, a8] (.int z :: st) M x = Rs L xs (d) 394 2890 [a0, a1, a2, a3, a4, some (.int y), some (.int z), a7, a8] st M x := Rs_next c394_2888 rfl
theorem c394_2890 : qx_code 394 2890 = some (2890, .aload_n 2, 2891, 0, 0, 0) := by decide +kernel
theorem s394_2890 {L : Nat} {xs : Nat → Int32} {d x : Nat} {M : qxM} {st : List Value} {a0 a1 a3 a4 a5 a6 a7 a8 : Option Value} {z : Nat} : Rs L xs (d) 394 2890 [a0, a1, some (.ref z), a3, a4, a5, a6, a7, a8] st M x = Rs L xs (d) 394 2891 [a0, a1, some (.ref z), a3, a4, a5, a6, a7, a8] (.ref z :: st) M x := Rs_next c394_2890 rfl
theorem c394_2891 : qx_code 394 2891 = some (2891, .aload_n 0, 2892, 0, 0, 0) := by decide +kernel
theorem s394_2891 {L : Nat} {xs : Nat → Int32} {d x : Nat} {M : qxM} {st : List Value} {a1 a2 a3 a4 a5 a6 a7 a8 : Option Value} {z : Nat} : Rs L xs (d) 394 2891 [some (.ref z), a1, a2, a3, a4, a5, a6, a7, a8] st M x = Rs L xs (d) 394 2892 [some (.ref z), a1, a2, a3, a4, a5, a6, a7, a8] (.ref z :: st) M x := Rs_next c394_2891 rfl
theorem c394_2892 : qx_code 394 2892 = some (2892, .iload 5, 2894, 0, 0, 0) := by decide +kernel
theorem s394_2892 {L : Nat} {xs : Nat → Int32} {d x : Nat} {M : qxM} {st : List Value} {a0 a1 a2 a3 a4 a6 a7 a8 : Option Value} {z : Int32} : Rs L xs (d) 394 2892 [a0, a1, a2, a3, a4, some (.int z), a6, a7, a8] st M x = Rs L xs (d) 394 2894 [a0, a1, a2, a3, a4, some (.int z), a6, a7, a8] (.int z :: st) M x := Rs_next c394_2892 rfl
theorem c394_2894 : qx_code 394 2894 = some (2894, .iconst 1, 2895, 0, 0, 0) := by decide +kernel
theorem s394_2894 {L : Nat} {xs : Nat → Int32} {d x : Nat} {M : qxM} {st : List Value} {ls : qxL} : Rs L xs (d) 394 2894 ls st M x = Rs L xs (d) 394 2895 ls (.int (nI 1) :: st) M x := Rs_next c394_2894 rfl
theorem c394_2895 : qx_code 394 2895 = some (2895, .iadd, 2896, 0, 0, 0) := by decide +kernel
theorem s394_2895 {L : Nat} {xs : Nat → Int32} {d x : Nat} {M : qxM} {st : List Value} {ls : qxL} {z y : Int32} : Rs L xs (d) 394 2895 ls (.int y :: .int z :: st) M x = Rs L xs (d) 394 2896 ls (.int (z + y) :: st) M x := Rs_next c394_2895 rfl
theorem c394_2896 : qx_code 394 2896 = some (2896, .iaload, 2897, 0, 0, 0) := by decide +kernel
theorem s394_2896s {L : Nat} {xs : Nat → Int32} {d x : Nat} {M : qxM} {st : List Value} {ls : qxL} {j : Int32} (hj : qx_ib j L = true) : Rs L xs (d) 394 2896 ls (.int j :: .ref 1 :: st) M x = Rs L xs (d) 394 2897 ls (.int (xs j.toNatClampNeg) :: st) M x := Rs_unless (qx_ib_not hj) c394_2896 rfl
theorem c394_2897 : qx_code 394 2897 = some (2897, .invokevirtual 368, 2900, 316, 2, 2165) := by decide +kernel
theorem s394_2897 {L : Nat} {xs : Nat → Int32} {d x : Nat} {M : qxM} {st : List Value} {ls : qxL} {t : Nat} {z0 : Int32} (hk : qx_kd t = 18) (hs : st.length ≤ 4) : Rs L xs (d + 1) 394 2897 ls (.int z0 :: .ref t :: st) M x = (Rs L xs d 316 0 [some (.ref t), some (.int z0), none] [] M 0).bind (qx_kn L xs (d + 1) 394 2897 2900 316 ls st x) := by
  have h1 : qx_act L xs (qx_rt 394) (2897, .invokevirtual 368, 2900, 316, 2, 2165) ls (.int z0 :: .ref t :: st) M = if 2 ≤ (.int z0 :: .ref t :: st).length ∧ st.length ≤ 4 then some (.inr (.inr (.inr (316, [.ref t, .int z0], st)))) else none := rfl
  rw [if_pos ⟨by simp [List.length_cons]; try omega, hs⟩] at h1
  have h2 := qx_kd_obj (k := 8) (by decide) hk
  exact Rs_call c394_2897 h1 (by rw [show qx_args 316 [.ref t, .int z0] = decide (qx_sh t = some (.inl 8)) from rfl]; exact decide_eq_true h2)
theorem c394_2900 : qx_code 394 2900 = some (2900, .istore 7, 2902, 0, 0, 0) := by decide +kernel
theorem s394_2900i {L : Nat} {xs : Nat → Int32} {d x : Nat} {M : qxM} {st : List Value} {a0 a1 a2 a3 a4 a5 a7 a8 : Option Value} {z : Int32} {y : Int32} : Rs L xs (d) 394 2900 [a0, a1, a2, a3, a4, a5, some (.int y), a7, a8] (.int z :: st) M x = Rs L xs (d) 394 2902 [a0, a1, a2, a3, a4, a5, some (.int y), some (.int z), a8] st M x := Rs_next c394_2900 rfl
theorem c394_2902 : qx_code 394 2902 = some (2902, .aload_n 2, 2903, 0, 0, 0) := by decide +kernel
theorem s394_2902 {L : Nat} {xs : Nat → Int32} {d x : Nat} {M : qxM} {st : List Value} {a0 a1 a3 a4 a5 a6 a7 a8 : Option Value} {z : Nat} : Rs L xs (d) 394 2902 [a0, a1, some (.ref z), a3, a4, a5, a6, a7, a8] st M x = Rs L xs (d) 394 2903 [a0, a1, some (.ref z), a3, a4, a5, a6, a7, a8] (.ref z :: st) M x := Rs_next c394_2902 rfl
