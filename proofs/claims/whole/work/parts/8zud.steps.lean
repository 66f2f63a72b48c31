/-! Steps of the law. -/
theorem c394_2903 : qx_code 394 2903 = some (2903, .invokevirtual 218, 2906, 177, 1, 1613) := by decide +kernel
theorem s394_2903 {L : Nat} {xs : Nat → Int32} {d x : Nat} {M : qxM} {st : List Value} {ls : qxL} {t : Nat} (hk : qx_kd t = 18) (hs : st.length ≤ 4) : Rs L xs (d + 1) 394 2903 ls (.ref t :: st) M x = (Rs L xs d 177 0 [some (.ref t)] [] M 0).bind (qx_kn L xs (d + 1) 394 2903 2906 177 ls st x) := by
  have h1 : qx_act L xs (qx_rt 394) (2903, .invokevirtual 218, 2906, 177, 1, 1613) ls (.ref t :: st) M = if 1 ≤ (.ref t :: st).length ∧ st.length ≤ 4 then some (.inr (.inr (.inr (177, [.ref t], st)))) else none := rfl
  rw [if_pos ⟨by simp [List.length_cons]; try omega, hs⟩] at h1
  have h2 := qx_kd_obj (k := 8) (by decide) hk
  exact Rs_call c394_2903 h1 (by rw [show qx_args 177 [.ref t] = decide (qx_sh t = some (.inl 8)) from rfl]; exact decide_eq_true h2)
theorem c394_2906 : qx_code 394 2906 = some (2906, .iload 6, 2908, 0, 0, 0) := by decide +kernel
theorem s394_2906 {L : Nat} {xs : Nat → Int32} {d x : Nat} {M : qxM} {st : List Value} {a0 a1 a2 a3 a4 a5 a7 a8 : Option Value} {z : Int32} : Rs L xs (d) 394 2906 [a0, a1, a2, a3, a4, a5, some (.int z), a7, a8] st M x = Rs L xs (d) 394 2908 [a0, a1, a2, a3, a4, a5, some (.int z), a7, a8] (.int z :: st) M x := Rs_next c394_2906 rfl
theorem c394_2908 : qx_code 394 2908 = some (2908, .if_icmp .eq 5, 2911, 2913, 0, 0) := by decide +kernel
theorem s394_2908 {L : Nat} {xs : Nat → Int32} {d x : Nat} {M : qxM} {st : List Value} {ls : qxL} {z y : Int32} : Rs L xs (d) 394 2908 ls (.int y :: .int z :: st) M x = if z = y then Rs L xs (d) 394 2913 ls st M x else Rs L xs (d) 394 2911 ls st M x := Rs_ite c394_2908 rfl
theorem c394_2913 : qx_code 394 2913 = some (2913, .iload 6, 2915, 0, 0, 0) := by decide +kernel
theorem s394_2913 {L : Nat} {xs : Nat → Int32} {d x : Nat} {M : qxM} {st : List Value} {a0 a1 a2 a3 a4 a5 a7 a8 : Option Value} {z : Int32} : Rs L xs (d) 394 2913 [a0, a1, a2, a3, a4, a5, some (.int z), a7, a8] st M x = Rs L xs (d) 394 2915 [a0, a1, a2, a3, a4, a5, some (.int z), a7, a8] (.int z :: st) M x := Rs_next c394_2913 rfl
theorem c394_2915 : qx_code 394 2915 = some (2915, .ifCond .ne 15, 2918, 2930, 0, 0) := by decide +kernel
theorem s394_2915 {L : Nat} {xs : Nat → Int32} {d x : Nat} {M : qxM} {st : List Value} {ls : qxL} {z : Int32} : Rs L xs (d) 394 2915 ls (.int z :: st) M x = if z = 0 then Rs L xs (d) 394 2918 ls st M x else Rs L xs (d) 394 2930 ls st M x := Rs_ite c394_2915 rfl
theorem c394_2918 : qx_code 394 2918 = some (2918, .aload_n 3, 2919, 0, 0, 0) := by decide +kernel
theorem s394_2918 {L : Nat} {xs : Nat → Int32} {d x : Nat} {M : qxM} {st : List Value} {a0 a1 a2 a4 a5 a6 a7 a8 : Option Value} {z : Nat} : Rs L xs (d) 394 2918 [a0, a1, a2, some (.ref z), a4, a5, a6, a7, a8] st M x = Rs L xs (d) 394 2919 [a0, a1, a2, some (.ref z), a4, a5, a6, a7, a8] (.ref z :: st) M x := Rs_next c394_2918 rfl
theorem c394_2919 : qx_code 394 2919 = some (2919, .iconst 0, 2920, 0, 0, 0) := by decide +kernel
theorem s394_2919 {L : Nat} {xs : Nat → Int32} {d x : Nat} {M : qxM} {st : List Value} {ls : qxL} : Rs L xs (d) 394 2919 ls st M x = Rs L xs (d) 394 2920 ls (.int (nI 0) :: st) M x := Rs_next c394_2919 rfl
theorem c394_2920 : qx_code 394 2920 = some (2920, .laload, 2921, 0, 0, 0) := by decide +kernel
theorem s394_2920 {L : Nat} {xs : Nat → Int32} {d x : Nat} {M : qxM} {st : List Value} {ls : qxL} {t : Nat} {j : Int32} (hk : qx_kd t = 4) (hj : qx_ib j (qx_ln t) = true) : Rs L xs (d) 394 2920 ls (.int j :: .ref t :: st) M x = Rs L xs (d) 394 2921 ls (.long (M.2.1 j.toNatClampNeg) :: st) M x := by
  have h1 := qx_kd_row (k := 4) (by decide) hk
  exact Rs_unless (qx_ib_not hj) c394_2920 (by unfold qx_act; dsimp only; rw [h1]; rfl)
theorem c394_2921 : qx_code 394 2921 = some (2921, .iload 7, 2923, 0, 0, 0) := by decide +kernel
theorem s394_2921 {L : Nat} {xs : Nat → Int32} {d x : Nat} {M : qxM} {st : List Value} {a0 a1 a2 a3 a4 a5 a6 a8 : Option Value} {z : Int32} : Rs L xs (d) 394 2921 [a0, a1, a2, a3, a4, a5, a6, some (.int z), a8] st M x = Rs L xs (d) 394 2923 [a0, a1, a2, a3, a4, a5, a6, some (.int z), a8] (.int z :: st) M x := Rs_next c394_2921 rfl
theorem c394_2923 : qx_code 394 2923 = some (2923, .i2l, 2924, 0, 0, 0) := by decide +kernel
theorem s394_2923 {L : Nat} {xs : Nat → Int32} {d x : Nat} {M : qxM} {st : List Value} {ls : qxL} {z : Int32} : Rs L xs (d) 394 2923 ls (.int z :: st) M x = Rs L xs (d) 394 2924 ls (.long z.toInt64 :: st) M x := Rs_next c394_2923 rfl
theorem c394_2924 : qx_code 394 2924 = some (2924, .lcmp, 2925, 0, 0, 0) := by decide +kernel
theorem s394_2924 {L : Nat} {xs : Nat → Int32} {d x : Nat} {M : qxM} {st : List Value} {ls : qxL} {z y : Int64} : Rs L xs (d) 394 2924 ls (.long y :: .long z :: st) M x = Rs L xs (d) 394 2925 ls (.int (lg_cmp z y) :: st) M x := Rs_next c394_2924 rfl
theorem c394_2925 : qx_code 394 2925 = some (2925, .ifCond .eq 5, 2928, 2930, 0, 0) := by decide +kernel
theorem s394_2925 {L : Nat} {xs : Nat → Int32} {d x : Nat} {M : qxM} {st : List Value} {ls : qxL} {z : Int32} : Rs L xs (d) 394 2925 ls (.int z :: st) M x = if z = 0 then Rs L xs (d) 394 2930 ls st M x else Rs L xs (d) 394 2928 ls st M x := Rs_ite c394_2925 rfl
theorem c394_2930 : qx_code 394 2930 = some (2930, .goto 816, 2933, 3746, 0, 0) := by decide +kernel
theorem s394_2930 {L : Nat} {xs : Nat → Int32} {d x : Nat} {M : qxM} {st : List Value} {ls : qxL} : Rs L xs (d) 394 2930 ls st M x = Rs L xs (d) 394 3746 ls st M x := Rs_next c394_2930 rfl
theorem c394_2933 : qx_code 394 2933 = some (2933, .aload_n 1, 2934, 0, 0, 0) := by decide +kernel
theorem s394_2933 {L : Nat} {xs : Nat → Int32} {d x : Nat} {M : qxM} {st : List Value} {a0 a2 a3 a4 a5 a6 a7 a8 : Option Value} {z : Nat} : Rs L xs (d) 394 2933 [a0, some (.ref z), a2, a3, a4, a5, a6, a7, a8] st M x = Rs L xs (d) 394 2934 [a0, some (.ref z), a2, a3, a4, a5, a6, a7, a8] (.ref z :: st) M x := Rs_next c394_2933 rfl
theorem c394_2934 : qx_code 394 2934 = some (2934, .aload_n 0, 2935, 0, 0, 0) := by decide +kernel
theorem s394_2934 {L : Nat} {xs : Nat → Int32} {d x : Nat} {M : qxM} {st : List Value} {a1 a2 a3 a4 a5 a6 a7 a8 : Option Value} {z : Nat} : Rs L xs (d) 394 2934 [some (.ref z), a1, a2, a3, a4, a5, a6, a7, a8] st M x = Rs L xs (d) 394 2935 [some (.ref z), a1, a2, a3, a4, a5, a6, a7, a8] (.ref z :: st) M x := Rs_next c394_2934 rfl
theorem c394_2935 : qx_code 394 2935 = some (2935, .iload 5, 2937, 0, 0, 0) := by decide +kernel
theorem s394_2935 {L : Nat} {xs : Nat → Int32} {d x : Nat} {M : qxM} {st : List Value} {a0 a1 a2 a3 a4 a6 a7 a8 : Option Value} {z : Int32} : Rs L xs (d) 394 2935 [a0, a1, a2, a3, a4, some (.int z), a6, a7, a8] st M x = Rs L xs (d) 394 2937 [a0, a1, a2, a3, a4, some (.int z), a6, a7, a8] (.int z :: st) M x := Rs_next c394_2935 rfl
theorem c394_2937 : qx_code 394 2937 = some (2937, .iconst 1, 2938, 0, 0, 0) := by decide +kernel
theorem s394_2937 {L : Nat} {xs : Nat → Int32} {d x : Nat} {M : qxM} {st : List Value} {ls : qxL} : Rs L xs (d) 394 2937 ls st M x = Rs L xs (d) 394 2938 ls (.int (nI 1) :: st) M x := Rs_next c394_2937 rfl
theorem c394_2938 : qx_code 394 2938 = some (2938, .iadd, 2939, 0, 0, 0) := by decide +kernel
theorem s394_2938 {L : Nat} {xs : Nat → Int32} {d x : Nat} {M : qxM} {st : List Value} {ls : qxL} {z y : Int32} : Rs L xs (d) 394 2938 ls (.int y :: .int z :: st) M x = Rs L xs (d) 394 2939 ls (.int (z + y) :: st) M x := Rs_next c394_2938 rfl
theorem c394_2939 : qx_code 394 2939 = some (2939, .iaload, 2940, 0, 0, 0) := by decide +kernel
theorem s394_2939s {L : Nat} {xs : Nat → Int32} {d x : Nat} {M : qxM} {st : List Value} {ls : qxL} {j : Int32} (hj : qx_ib j L = true) : Rs L xs (d) 394 2939 ls (.int j :: .ref 1 :: st) M x = Rs L xs (d) 394 2940 ls (.int (xs j.toNatClampNeg) :: st) M x := Rs_unless (qx_ib_not hj) c394_2939 rfl
theorem c394_2940 : qx_code 394 2940 = some (2940, .aload_n 3, 2941, 0, 0, 0) := by decide +kernel
theorem s394_2940 {L : Nat} {xs : Nat → Int32} {d x : Nat} {M : qxM} {st : List Value} {a0 a1 a2 a4 a5 a6 a7 a8 : Option Value} {z : Nat} : Rs L xs (d) 394 2940 [a0, a1, a2, some (.ref z), a4, a5, a6, a7, a8] st M x = Rs L xs (d) 394 2941 [a0, a1, a2, some (.ref z), a4, a5, a6, a7, a8] (.ref z :: st) M x := Rs_next c394_2940 rfl
theorem c394_2941 : qx_code 394 2941 = some (2941, .invokestatic 369, 2944, 380, 3, 1389) := by decide +kernel
theorem s394_2941 {L : Nat} {xs : Nat → Int32} {d x : Nat} {M : qxM} {st : List Value} {ls : qxL} {z0 : Nat} {z1 : Int32} {z2 : Nat} (hs : st.length ≤ 4) : Rs L xs (d + 1) 394 2941 ls (.ref z2 :: .int z1 :: .ref z0 :: st) M x = (Rs L xs d 380 0 [some (.ref z0), some (.int z1), some (.ref z2), none] [] M 0).bind (qx_kn L xs (d + 1) 394 2941 2944 380 ls st x) := by
  have h1 : qx_act L xs (qx_rt 394) (2941, .invokestatic 369, 2944, 380, 3, 1389) ls (.ref z2 :: .int z1 :: .ref z0 :: st) M = if 3 ≤ (.ref z2 :: .int z1 :: .ref z0 :: st).length ∧ st.length ≤ 4 then some (.inr (.inr (.inr (380, [.ref z0, .int z1, .ref z2], st)))) else none := rfl
  rw [if_pos ⟨by simp [List.length_cons]; try omega, hs⟩] at h1
  exact Rs_call c394_2941 h1 rfl
theorem c394_2944 : qx_code 394 2944 = some (2944, .istore 6, 2946, 0, 0, 0) := by decide +kernel
theorem s394_2944i {L : Nat} {xs : Nat → Int32} {d x : Nat} {M : qxM} {st : List Value} {a0 a1 a2 a3 a4 a6 a7 a8 : Option Value} {z : Int32} {y : Int32} : Rs L xs (d) 394 2944 [a0, a1, a2, a3, a4, some (.int y), a6, a7, a8] (.int z :: st) M x = Rs L xs (d) 394 2946 [a0, a1, a2, a3, a4, some (.int y), some (.int z), a7, a8] st M x := Rs_next c394_2944 rfl
theorem c394_2946 : qx_code 394 2946 = some (2946, .aload_n 2, 2947, 0, 0, 0) := by decide +kernel
theorem s394_2946 {L : Nat} {xs : Nat → Int32} {d x : Nat} {M : qxM} {st : List Value} {a0 a1 a3 a4 a5 a6 a7 a8 : Option Value} {z : Nat} : Rs L xs (d) 394 2946 [a0, a1, some (.ref z), a3, a4, a5, a6, a7, a8] st M x = Rs L xs (d) 394 2947 [a0, a1, some (.ref z), a3, a4, a5, a6, a7, a8] (.ref z :: st) M x := Rs_next c394_2946 rfl
theorem c394_2947 : qx_code 394 2947 = some (2947, .aload_n 0, 2948, 0, 0, 0) := by decide +kernel
theorem s394_2947 {L : Nat} {xs : Nat → Int32} {d x : Nat} {M : qxM} {st : List Value} {a1 a2 a3 a4 a5 a6 a7 a8 : Option Value} {z : Nat} : Rs L xs (d) 394 2947 [some (.ref z), a1, a2, a3, a4, a5, a6, a7, a8] st M x = Rs L xs (d) 394 2948 [some (.ref z), a1, a2, a3, a4, a5, a6, a7, a8] (.ref z :: st) M x := Rs_next c394_2947 rfl
theorem c394_2948 : qx_code 394 2948 = some (2948, .iload 5, 2950, 0, 0, 0) := by decide +kernel
theorem s394_2948 {L : Nat} {xs : Nat → Int32} {d x : Nat} {M : qxM} {st : List Value} {a0 a1 a2 a3 a4 a6 a7 a8 : Option Value} {z : Int32} : Rs L xs (d) 394 2948 [a0, a1, a2, a3, a4, some (.int z), a6, a7, a8] st M x = Rs L xs (d) 394 2950 [a0, a1, a2, a3, a4, some (.int z), a6, a7, a8] (.int z :: st) M x := Rs_next c394_2948 rfl
theorem c394_2950 : qx_code 394 2950 = some (2950, .iconst 1, 2951, 0, 0, 0) := by decide +kernel
theorem s394_2950 {L : Nat} {xs : Nat → Int32} {d x : Nat} {M : qxM} {st : List Value} {ls : qxL} : Rs L xs (d) 394 2950 ls st M x = Rs L xs (d) 394 2951 ls (.int (nI 1) :: st) M x := Rs_next c394_2950 rfl
theorem c394_2951 : qx_code 394 2951 = some (2951, .iadd, 2952, 0, 0, 0) := by decide +kernel
theorem s394_2951 {L : Nat} {xs : Nat → Int32} {d x : Nat} {M : qxM} {st : List Value} {ls : qxL} {z y : Int32} : Rs L xs (d) 394 2951 ls (.int y :: .int z :: st) M x = Rs L xs (d) 394 2952 ls (.int (z + y) :: st) M x := Rs_next c394_2951 rfl
theorem c394_2952 : qx_code 394 2952 = some (2952, .iaload, 2953, 0, 0, 0) := by decide +kernel
theorem s394_2952s {L : Nat} {xs : Nat → Int32} {d x : Nat} {M : qxM} {st : List Value} {ls : qxL} {j : Int32} (hj : qx_ib j L = true) : Rs L xs (d) 394 2952 ls (.int j :: .ref 1 :: st) M x = Rs L xs (d) 394 2953 ls (.int (xs j.toNatClampNeg) :: st) M x := Rs_unless (qx_ib_not hj) c394_2952 rfl
theorem c394_2953 : qx_code 394 2953 = some (2953, .invokevirtual 371, 2956, 317, 2, 2169) := by decide +kernel
theorem s394_2953 {L : Nat} {xs : Nat → Int32} {d x : Nat} {M : qxM} {st : List Value} {ls : qxL} {t : Nat} {z0 : Int32} (hk : qx_kd t = 18) (hs : st.length ≤ 4) : Rs L xs (d + 1) 394 2953 ls (.int z0 :: .ref t :: st) M x = (Rs L xs d 317 0 [some (.ref t), some (.int z0)] [] M 0).bind (qx_kn L xs (d + 1) 394 2953 2956 317 ls st x) := by
  have h1 : qx_act L xs (qx_rt 394) (2953, .invokevirtual 371, 2956, 317, 2, 2169) ls (.int z0 :: .ref t :: st) M = if 2 ≤ (.int z0 :: .ref t :: st).length ∧ st.length ≤ 4 then some (.inr (.inr (.inr (317, [.ref t, .int z0], st)))) else none := rfl
  rw [if_pos ⟨by simp [List.length_cons]; try omega, hs⟩] at h1
  have h2 := qx_kd_obj (k := 8) (by decide) hk
  exact Rs_call c394_2953 h1 (by rw [show qx_args 317 [.ref t, .int z0] = decide (qx_sh t = some (.inl 8)) from rfl]; exact decide_eq_true h2)
theorem c394_2956 : qx_code 394 2956 = some (2956, .istore 7, 2958, 0, 0, 0) := by decide +kernel
theorem s394_2956i {L : Nat} {xs : Nat → Int32} {d x : Nat} {M : qxM} {st : List Value} {a0 a1 a2 a3 a4 a5 a7 a8 : Option Value} {z : Int32} {y : Int32} : Rs L xs (d) 394 2956 [a0, a1, a2, a3, a4, a5, some (.int y), a7, a8] (.int z :: st) M x = Rs L xs (d) 394 2958 [a0, a1, a2, a3, a4, a5, some (.int y), some (.int z), a8] st M x := Rs_next c394_2956 rfl
theorem c394_2958 : qx_code 394 2958 = some (2958, .aload_n 2, 2959, 0, 0, 0) := by decide +kernel
theorem s394_2958 {L : Nat} {xs : Nat → Int32} {d x : Nat} {M : qxM} {st : List Value} {a0 a1 a3 a4 a5 a6 a7 a8 : Option Value} {z : Nat} : Rs L xs (d) 394 2958 [a0, a1, some (.ref z), a3, a4, a5, a6, a7, a8] st M x = Rs L xs (d) 394 2959 [a0, a1, some (.ref z), a3, a4, a5, a6, a7, a8] (.ref z :: st) M x := Rs_next c394_2958 rfl
theorem c394_2959 : qx_code 394 2959 = some (2959, .invokevirtual 218, 2962, 177, 1, 1613) := by decide +kernel
theorem s394_2959 {L : Nat} {xs : Nat → Int32} {d x : Nat} {M : qxM} {st : List Value} {ls : qxL} {t : Nat} (hk : qx_kd t = 18) (hs : st.length ≤ 4) : Rs L xs (d + 1) 394 2959 ls (.ref t :: st) M x = (Rs L xs d 177 0 [some (.ref t)] [] M 0).bind (qx_kn L xs (d + 1) 394 2959 2962 177 ls st x) := by
  have h1 : qx_act L xs (qx_rt 394) (2959, .invokevirtual 218, 2962, 177, 1, 1613) ls (.ref t :: st) M = if 1 ≤ (.ref t :: st).length ∧ st.length ≤ 4 then some (.inr (.inr (.inr (177, [.ref t], st)))) else none := rfl
  rw [if_pos ⟨by simp [List.length_cons]; try omega, hs⟩] at h1
  have h2 := qx_kd_obj (k := 8) (by decide) hk
  exact Rs_call c394_2959 h1 (by rw [show qx_args 177 [.ref t] = decide (qx_sh t = some (.inl 8)) from rfl]; exact decide_eq_true h2)
theorem c394_2962 : qx_code 394 2962 = some (2962, .iload 6, 2964, 0, 0, 0) := by decide +kernel
theorem s394_2962 {L : Nat} {xs : Nat → Int32} {d x : Nat} {M : qxM} {st : List Value} {a0 a1 a2 a3 a4 a5 a7 a8 : Option Value} {z : Int32} : Rs L xs (d) 394 2962 [a0, a1, a2, a3, a4, a5, some (.int z), a7, a8] st M x = Rs L xs (d) 394 2964 [a0, a1, a2, a3, a4, a5, some (.int z), a7, a8] (.int z :: st) M x := Rs_next c394_2962 rfl
theorem c394_2964 : qx_code 394 2964 = some (2964, .if_icmp .eq 5, 2967, 2969, 0, 0) := by decide +kernel
theorem s394_2964 {L : Nat} {xs : Nat → Int32} {d x : Nat} {M : qxM} {st : List Value} {ls : qxL} {z y : Int32} : Rs L xs (d) 394 2964 ls (.int y :: .int z :: st) M x = if z = y then Rs L xs (d) 394 2969 ls st M x else Rs L xs (d) 394 2967 ls st M x := Rs_ite c394_2964 rfl
theorem c394_2969 : qx_code 394 2969 = some (2969, .iload 6, 2971, 0, 0, 0) := by decide +kernel
theorem s394_2969 {L : Nat} {xs : Nat → Int32} {d x : Nat} {M : qxM} {st : List Value} {a0 a1 a2 a3 a4 a5 a7 a8 : Option Value} {z : Int32} : Rs L xs (d) 394 2969 [a0, a1, a2, a3, a4, a5, some (.int z), a7, a8] st M x = Rs L xs (d) 394 2971 [a0, a1, a2, a3, a4, a5, some (.int z), a7, a8] (.int z :: st) M x := Rs_next c394_2969 rfl
theorem c394_2971 : qx_code 394 2971 = some (2971, .ifCond .ne 15, 2974, 2986, 0, 0) := by decide +kernel
theorem s394_2971 {L : Nat} {xs : Nat → Int32} {d x : Nat} {M : qxM} {st : List Value} {ls : qxL} {z : Int32} : Rs L xs (d) 394 2971 ls (.int z :: st) M x = if z = 0 then Rs L xs (d) 394 2974 ls st M x else Rs L xs (d) 394 2986 ls st M x := Rs_ite c394_2971 rfl
theorem c394_2974 : qx_code 394 2974 = some (2974, .aload_n 3, 2975, 0, 0, 0) := by decide +kernel
theorem s394_2974 {L : Nat} {xs : Nat → Int32} {d x : Nat} {M : qxM} {st : List Value} {a0 a1 a2 a4 a5 a6 a7 a8 : Option Value} {z : Nat} : Rs L xs (d) 394 2974 [a0, a1, a2, some (.ref z), a4, a5, a6, a7, a8] st M x = Rs L xs (d) 394 2975 [a0, a1, a2, some (.ref z), a4, a5, a6, a7, a8] (.ref z :: st) M x := Rs_next c394_2974 rfl
theorem c394_2975 : qx_code 394 2975 = some (2975, .iconst 0, 2976, 0, 0, 0) := by decide +kernel
theorem s394_2975 {L : Nat} {xs : Nat → Int32} {d x : Nat} {M : qxM} {st : List Value} {ls : qxL} : Rs L xs (d) 394 2975 ls st M x = Rs L xs (d) 394 2976 ls (.int (nI 0) :: st) M x := Rs_next c394_2975 rfl
theorem c394_2976 : qx_code 394 2976 = some (2976, .laload, 2977, 0, 0, 0) := by decide +kernel
theorem s394_2976 {L : Nat} {xs : Nat → Int32} {d x : Nat} {M : qxM} {st : List Value} {ls : qxL} {t : Nat} {j : Int32} (hk : qx_kd t = 4) (hj : qx_ib j (qx_ln t) = true) : Rs L xs (d) 394 2976 ls (.int j :: .ref t :: st) M x = Rs L xs (d) 394 2977 ls (.long (M.2.1 j.toNatClampNeg) :: st) M x := by
  have h1 := qx_kd_row (k := 4) (by decide) hk
  exact Rs_unless (qx_ib_not hj) c394_2976 (by unfold qx_act; dsimp only; rw [h1]; rfl)
theorem c394_2977 : qx_code 394 2977 = some (2977, .iload 7, 2979, 0, 0, 0) := by decide +kernel
theorem s394_2977 {L : Nat} {xs : Nat → Int32} {d x : Nat} {M : qxM} {st : List Value} {a0 a1 a2 a3 a4 a5 a6 a8 : Option Value} {z : Int32} : Rs L xs (d) 394 2977 [a0, a1, a2, a3, a4, a5, a6, some (.int z), a8] st M x = Rs L xs (d) 394 2979 [a0, a1, a2, a3, a4, a5, a6, some (.int z), a8] (.int z :: st) M x := Rs_next c394_2977 rfl
theorem c394_2979 : qx_code 394 2979 = some (2979, .i2l, 2980, 0, 0, 0) := by decide +kernel
theorem s394_2979 {L : Nat} {xs : Nat → Int32} {d x : Nat} {M : qxM} {st : List Value} {ls : qxL} {z : Int32} : Rs L xs (d) 394 2979 ls (.int z :: st) M x = Rs L xs (d) 394 2980 ls (.long z.toInt64 :: st) M x := Rs_next c394_2979 rfl
theorem c394_2980 : qx_code 394 2980 = some (2980, .lcmp, 2981, 0, 0, 0) := by decide +kernel
theorem s394_2980 {L : Nat} {xs : Nat → Int32} {d x : Nat} {M : qxM} {st : List Value} {ls : qxL} {z y : Int64} : Rs L xs (d) 394 2980 ls (.long y :: .long z :: st) M x = Rs L xs (d) 394 2981 ls (.int (lg_cmp z y) :: st) M x := Rs_next c394_2980 rfl
theorem c394_2981 : qx_code 394 2981 = some (2981, .ifCond .eq 5, 2984, 2986, 0, 0) := by decide +kernel
theorem s394_2981 {L : Nat} {xs : Nat → Int32} {d x : Nat} {M : qxM} {st : List Value} {ls : qxL} {z : Int32} : Rs L xs (d) 394 2981 ls (.int z :: st) M x = if z = 0 then Rs L xs (d) 394 2986 ls st M x else Rs L xs (d) 394 2984 ls st M x := Rs_ite c394_2981 rfl
theorem c394_2986 : qx_code 394 2986 = some (2986, .goto 760, 2989, 3746, 0, 0) := by decide +kernel
theorem s394_2986 {L : Nat} {xs : Nat → Int32} {d x : Nat} {M : qxM} {st : List Value} {ls : qxL} : Rs L xs (d) 394 2986 ls st M x = Rs L xs (d) 394 3746 ls st M x := Rs_next c394_2986 rfl
theorem c394_2989 : qx_code 394 2989 = some (2989, .aload_n 1, 2990, 0, 0, 0) := by decide +kernel
theorem s394_2989 {L : Nat} {xs : Nat → Int32} {d x : Nat} {M : qxM} {st : List Value} {a0 a2 a3 a4 a5 a6 a7 a8 : Option Value} {z : Nat} : Rs L xs (d) 394 2989 [a0, some (.ref z), a2, a3, a4, a5, a6, a7, a8] st M x = Rs L xs (d) 394 2990 [a0, some (.ref z), a2, a3, a4, a5, a6, a7, a8] (.ref z :: st) M x := Rs_next c394_2989 rfl
theorem c394_2990 : qx_code 394 2990 = some (2990, .aload_n 0, 2991, 0, 0, 0) := by decide +kernel
theorem s394_2990 {L : Nat} {xs : Nat → Int32} {d x : Nat} {M : qxM} {st : List Value} {a1 a2 a3 a4 a5 a6 a7 a8 : Option Value} {z : Nat} : Rs L xs (d) 394 2990 [some (.ref z), a1, a2, a3, a4, a5, a6, a7, a8] st M x = Rs L xs (d) 394 2991 [some (.ref z), a1, a2, a3, a4, a5, a6, a7, a8] (.ref z :: st) M x := Rs_next c394_2990 rfl
theorem c394_2991 : qx_code 394 2991 = some (2991, .iload 5, 2993, 0, 0, 0) := by decide +kernel
theorem s394_2991 {L : Nat} {xs : Nat → Int32} {d x : Nat} {M : qxM} {st : List Value} {a0 a1 a2 a3 a4 a6 a7 a8 : Option Value} {z : Int32} : Rs L xs (d) 394 2991 [a0, a1, a2, a3, a4, some (.int z), a6, a7, a8] st M x = Rs L xs (d) 394 2993 [a0, a1, a2, a3, a4, some (.int z), a6, a7, a8] (.int z :: st) M x := Rs_next c394_2991 rfl
theorem c394_2993 : qx_code 394 2993 = some (2993, .iconst 1, 2994, 0, 0, 0) := by decide +kernel
theorem s394_2993 {L : Nat} {xs : Nat → Int32} {d x : Nat} {M : qxM} {st : List Value} {ls : qxL} : Rs L xs (d) 394 2993 ls st M x = Rs L xs (d) 394 2994 ls (.int (nI 1) :: st) M x := Rs_next c394_2993 rfl
theorem c394_2994 : qx_code 394 2994 = some (2994, .iadd, 2995, 0, 0, 0) := by decide +kernel
theorem s394_2994 {L : Nat} {xs : Nat → Int32} {d x : Nat} {M : qxM} {st : List Value} {ls : qxL} {z y : Int32} : Rs L xs (d) 394 2994 ls (.int y :: .int z :: st) M x = Rs L xs (d) 394 2995 ls (.int (z + y) :: st) M x := Rs_next c394_2994 rfl
theorem c394_2995 : qx_code 394 2995 = some (2995, .iaload, 2996, 0, 0, 0) := by decide +kernel
theorem s394_2995s {L : Nat} {xs : Nat → Int32} {d x : Nat} {M : qxM} {st : List Value} {ls : qxL} {j : Int32} (hj : qx_ib j L = true) : Rs L xs (d) 394 2995 ls (.int j :: .ref 1 :: st) M x = Rs L xs (d) 394 2996 ls (.int (xs j.toNatClampNeg) :: st) M x := Rs_unless (qx_ib_not hj) c394_2995 rfl
theorem c394_2996 : qx_code 394 2996 = some (2996, .aload_n 3, 2997, 0, 0, 0) := by decide +kernel
theorem s394_2996 {L : Nat} {xs : Nat → Int32} {d x : Nat} {M : qxM} {st : List Value} {a0 a1 a2 a4 a5 a6 a7 a8 : Option Value} {z : Nat} : Rs L xs (d) 394 2996 [a0, a1, a2, some (.ref z), a4, a5, a6, a7, a8] st M x = Rs L xs (d) 394 2997 [a0, a1, a2, some (.ref z), a4, a5, a6, a7, a8] (.ref z :: st) M x := Rs_next c394_2996 rfl
theorem c394_2997 : qx_code 394 2997 = some (2997, .invokestatic 372, 3000, 381, 3, 1397) := by decide +kernel
theorem s394_2997 {L : Nat} {xs : Nat → Int32} {d x : Nat} {M : qxM} {st : List Value} {ls : qxL} {z0 : Nat} {z1 : Int32} {z2 : Nat} (hs : st.length ≤ 4) : Rs L xs (d + 1) 394 2997 ls (.ref z2 :: .int z1 :: .ref z0 :: st) M x = (Rs L xs d 381 0 [some (.ref z0), some (.int z1), some (.ref z2), none] [] M 0).bind (qx_kn L xs (d + 1) 394 2997 3000 381 ls st x) := by
  have h1 : qx_act L xs (qx_rt 394) (2997, .invokestatic 372, 3000, 381, 3, 1397) ls (.ref z2 :: .int z1 :: .ref z0 :: st) M = if 3 ≤ (.ref z2 :: .int z1 :: .ref z0 :: st).length ∧ st.length ≤ 4 then some (.inr (.inr (.inr (381, [.ref z0, .int z1, .ref z2], st)))) else none := rfl
  rw [if_pos ⟨by simp [List.length_cons]; try omega, hs⟩] at h1
  exact Rs_call c394_2997 h1 rfl
theorem c394_3000 : qx_code 394 3000 = some (3000, .istore 6, 3002, 0, 0, 0) := by decide +kernel
theorem s394_3000i {L : Nat} {xs : Nat → Int32} {d x : Nat} {M : qxM} {st : List Value} {a0 a1 a2 a3 a4 a6 a7 a8 : Option Value} {z : Int32} {y : Int32} : Rs L xs (d) 394 3000 [a0, a1, a2, a3, a4, some (.int y), a6, a7, a8] (.int z :: st) M x = Rs L xs (d) 394 3002 [a0, a1, a2, a3, a4, some (.int y), some (.int z), a7, a8] st M x := Rs_next c394_3000 rfl
theorem c394_3002 : qx_code 394 3002 = some (3002, .aload_n 2, 3003, 0, 0, 0) := by decide +kernel
theorem s394_3002 {L : Nat} {xs : Nat → Int32} {d x : Nat} {M : qxM} {st : List Value} {a0 a1 a3 a4 a5 a6 a7 a8 : Option Value} {z : Nat} : Rs L xs (d) 394 3002 [a0, a1, some (.ref z), a3, a4, a5, a6, a7, a8] st M x = Rs L xs (d) 394 3003 [a0, a1, some (.ref z), a3, a4, a5, a6, a7, a8] (.ref z :: st) M x := Rs_next c394_3002 rfl
theorem c394_3003 : qx_code 394 3003 = some (3003, .aload_n 0, 3004, 0, 0, 0) := by decide +kernel
theorem s394_3003 {L : Nat} {xs : Nat → Int32} {d x : Nat} {M : qxM} {st : List Value} {a1 a2 a3 a4 a5 a6 a7 a8 : Option Value} {z : Nat} : Rs L xs (d) 394 3003 [some (.ref z), a1, a2, a3, a4, a5, a6, a7, a8] st M x = Rs L xs (d) 394 3004 [some (.ref z), a1, a2, a3, a4, a5, a6, a7, a8] (.ref z :: st) M x := Rs_next c394_3003 rfl
theorem c394_3004 : qx_code 394 3004 = some (3004, .iload 5, 3006, 0, 0, 0) := by decide +kernel
theorem s394_3004 {L : Nat} {xs : Nat → Int32} {d x : Nat} {M : qxM} {st : List Value} {a0 a1 a2 a3 a4 a6 a7 a8 : Option Value} {z : Int32} : Rs L xs (d) 394 3004 [a0, a1, a2, a3, a4, some (.int z), a6, a7, a8] st M x = Rs L xs (d) 394 3006 [a0, a1, a2, a3, a4, some (.int z), a6, a7, a8] (.int z :: st) M x := Rs_next c394_3004 rfl
theorem c394_3006 : qx_code 394 3006 = some (3006, .iconst 1, 3007, 0, 0, 0) := by decide +kernel
theorem s394_3006 {L : Nat} {xs : Nat → Int32} {d x : Nat} {M : qxM} {st : List Value} {ls : qxL} : Rs L xs (d) 394 3006 ls st M x = Rs L xs (d) 394 3007 ls (.int (nI 1) :: st) M x := Rs_next c394_3006 rfl
theorem c394_3007 : qx_code 394 3007 = some (3007, .iadd, 3008, 0, 0, 0) := by decide +kernel
theorem s394_3007 {L : Nat} {xs : Nat → Int32} {d x : Nat} {M : qxM} {st : List Value} {ls : qxL} {z y : Int32} : Rs L xs (d) 394 3007 ls (.int y :: .int z :: st) M x = Rs L xs (d) 394 3008 ls (.int (z + y) :: st) M x := Rs_next c394_3007 rfl
theorem c394_3008 : qx_code 394 3008 = some (3008, .iaload, 3009, 0, 0, 0) := by decide +kernel
theorem s394_3008s {L : Nat} {xs : Nat → Int32} {d x : Nat} {M : qxM} {st : List Value} {ls : qxL} {j : Int32} (hj : qx_ib j L = true) : Rs L xs (d) 394 3008 ls (.int j :: .ref 1 :: st) M x = Rs L xs (d) 394 3009 ls (.int (xs j.toNatClampNeg) :: st) M x := Rs_unless (qx_ib_not hj) c394_3008 rfl
theorem c394_3009 : qx_code 394 3009 = some (3009, .invokevirtual 374, 3012, 320, 2, 2173) := by decide +kernel
theorem s394_3009 {L : Nat} {xs : Nat → Int32} {d x : Nat} {M : qxM} {st : List Value} {ls : qxL} {t : Nat} {z0 : Int32} (hk : qx_kd t = 18) (hs : st.length ≤ 4) : Rs L xs (d + 1) 394 3009 ls (.int z0 :: .ref t :: st) M x = (Rs L xs d 320 0 [some (.ref t), some (.int z0), none] [] M 0).bind (qx_kn L xs (d + 1) 394 3009 3012 320 ls st x) := by
  have h1 : qx_act L xs (qx_rt 394) (3009, .invokevirtual 374, 3012, 320, 2, 2173) ls (.int z0 :: .ref t :: st) M = if 2 ≤ (.int z0 :: .ref t :: st).length ∧ st.length ≤ 4 then some (.inr (.inr (.inr (320, [.ref t, .int z0], st)))) else none := rfl
  rw [if_pos ⟨by simp [List.length_cons]; try omega, hs⟩] at h1
  have h2 := qx_kd_obj (k := 8) (by decide) hk
  exact Rs_call c394_3009 h1 (by rw [show qx_args 320 [.ref t, .int z0] = decide (qx_sh t = some (.inl 8)) from rfl]; exact decide_eq_true h2)
theorem c394_3012 : qx_code 394 3012 = some (3012, .istore 7, 3014, 0, 0, 0) := by decide +kernel
theorem s394_3012i {L : Nat} {xs : Nat → Int32} {d x : Nat} {M : qxM} {st : List Value} {a0 a1 a2 a3 a4 a5 a7 a8 : Option Value} {z : Int32} {y : Int32} : Rs L xs (d) 394 3012 [a0, a1, a2, a3, a4, a5, some (.int y), a7, a8] (.int z :: st) M x = Rs L xs (d) 394 3014 [a0, a1, a2, a3, a4, a5, some (.int y), some (.int z), a8] st M x := Rs_next c394_3012 rfl
theorem c394_3014 : qx_code 394 3014 = some (3014, .aload_n 2, 3015, 0, 0, 0) := by decide +kernel
theorem s394_3014 {L : Nat} {xs : Nat → Int32} {d x : Nat} {M : qxM} {st : List Value} {a0 a1 a3 a4 a5 a6 a7 a8 : Option Value} {z : Nat} : Rs L xs (d) 394 3014 [a0, a1, some (.ref z), a3, a4, a5, a6, a7, a8] st M x = Rs L xs (d) 394 3015 [a0, a1, some (.ref z), a3, a4, a5, a6, a7, a8] (.ref z :: st) M x := Rs_next c394_3014 rfl
theorem c394_3015 : qx_code 394 3015 = some (3015, .invokevirtual 218, 3018, 177, 1, 1613) := by decide +kernel
theorem s394_3015 {L : Nat} {xs : Nat → Int32} {d x : Nat} {M : qxM} {st : List Value} {ls : qxL} {t : Nat} (hk : qx_kd t = 18) (hs : st.length ≤ 4) : Rs L xs (d + 1) 394 3015 ls (.ref t :: st) M x = (Rs L xs d 177 0 [some (.ref t)] [] M 0).bind (qx_kn L xs (d + 1) 394 3015 3018 177 ls st x) := by
  have h1 : qx_act L xs (qx_rt 394) (3015, .invokevirtual 218, 3018, 177, 1, 1613) ls (.ref t :: st) M = if 1 ≤ (.ref t :: st).length ∧ st.length ≤ 4 then some (.inr (.inr (.inr (177, [.ref t], st)))) else none := rfl
  rw [if_pos ⟨by simp [List.length_cons]; try omega, hs⟩] at h1
  have h2 := qx_kd_obj (k := 8) (by decide) hk
  exact Rs_call c394_3015 h1 (by rw [show qx_args 177 [.ref t] = decide (qx_sh t = some (.inl 8)) from rfl]; exact decide_eq_true h2)
theorem c394_3018 : qx_code 394 3018 = some (3018, .iload 6, 3020, 0, 0, 0) := by decide +kernel
theorem s394_3018 {L : Nat} {xs : Nat → Int32} {d x : Nat} {M : qxM} {st : List Value} {a0 a1 a2 a3 a4 a5 a7 a8 : Option Value} {z : Int32} : Rs L xs (d) 394 3018 [a0, a1, a2, a3, a4, a5, some (.int z), a7, a8] st M x = Rs L xs (d) 394 3020 [a0, a1, a2, a3, a4, a5, some (.int z), a7, a8] (.int z :: st) M x := Rs_next c394_3018 rfl
theorem c394_3020 : qx_code 394 3020 = some (3020, .if_icmp .eq 5, 3023, 3025, 0, 0) := by decide +kernel
theorem s394_3020 {L : Nat} {xs : Nat → Int32} {d x : Nat} {M : qxM} {st : List Value} {ls : qxL} {z y : Int32} : Rs L xs (d) 394 3020 ls (.int y :: .int z :: st) M x = if z = y then Rs L xs (d) 394 3025 ls st M x else Rs L xs (d) 394 3023 ls st M x := Rs_ite c394_3020 rfl
theorem c394_3025 : qx_code 394 3025 = some (3025, .iload 6, 3027, 0, 0, 0) := by decide +kernel
theorem s394_3025 {L : Nat} {xs : Nat → Int32} {d x : Nat} {M : qxM} {st : List Value} {a0 a1 a2 a3 a4 a5 a7 a8 : Option Value} {z : Int32} : Rs L xs (d) 394 3025 [a0, a1, a2, a3, a4, a5, some (.int z), a7, a8] st M x = Rs L xs (d) 394 3027 [a0, a1, a2, a3, a4, a5, some (.int z), a7, a8] (.int z :: st) M x := Rs_next c394_3025 rfl
theorem c394_3027 : qx_code 394 3027 = some (3027, .ifCond .ne 15, 3030, 3042, 0, 0) := by decide +kernel
theorem s394_3027 {L : Nat} {xs : Nat → Int32} {d x : Nat} {M : qxM} {st : List Value} {ls : qxL} {z : Int32} : Rs L xs (d) 394 3027 ls (.int z :: st) M x = if z = 0 then Rs L xs (d) 394 3030 ls st M x else Rs L xs (d) 394 3042 ls st M x := Rs_ite c394_3027 rfl
theorem c394_3030 : qx_code 394 3030 = some (3030, .aload_n 3, 3031, 0, 0, 0) := by decide +kernel
theorem s394_3030 {L : Nat} {xs : Nat → Int32} {d x : Nat} {M : qxM} {st : List Value} {a0 a1 a2 a4 a5 a6 a7 a8 : Option Value} {z : Nat} : Rs L xs (d) 394 3030 [a0, a1, a2, some (.ref z), a4, a5, a6, a7, a8] st M x = Rs L xs (d) 394 3031 [a0, a1, a2, some (.ref z), a4, a5, a6, a7, a8] (.ref z :: st) M x := Rs_next c394_3030 rfl
theorem c394_3031 : qx_code 394 3031 = some (3031, .iconst 0, 3032, 0, 0, 0) := by decide +kernel
theorem s394_3031 {L : Nat} {xs : Nat → Int32} {d x : Nat} {M : qxM} {st : List Value} {ls : qxL} : Rs L xs (d) 394 3031 ls st M x = Rs L xs (d) 394 3032 ls (.int (nI 0) :: st) M x := Rs_next c394_3031 rfl
theorem c394_3032 : qx_code 394 3032 = some (3032, .laload, 3033, 0, 0, 0) := by decide +kernel
theorem s394_3032 {L : Nat} {xs : Nat → Int32} {d x : Nat} {M : qxM} {st : List Value} {ls : qxL} {t : Nat} {j : Int32} (hk : qx_kd t = 4) (hj : qx_ib j (qx_ln t) = true) : Rs L xs (d) 394 3032 ls (.int j :: .ref t :: st) M x = Rs L xs (d) 394 3033 ls (.long (M.2.1 j.toNatClampNeg) :: st) M x := by
  have h1 := qx_kd_row (k := 4) (by decide) hk
  exact Rs_unless (qx_ib_not hj) c394_3032 (by unfold qx_act; dsimp only; rw [h1]; rfl)
theorem c394_3033 : qx_code 394 3033 = some (3033, .iload 7, 3035, 0, 0, 0) := by decide +kernel
theorem s394_3033 {L : Nat} {xs : Nat → Int32} {d x : Nat} {M : qxM} {st : List Value} {a0 a1 a2 a3 a4 a5 a6 a8 : Option Value} {z : Int32} : Rs L xs (d) 394 3033 [a0, a1, a2, a3, a4, a5, a6, some (.int z), a8] st M x = Rs L xs (d) 394 3035 [a0, a1, a2, a3, a4, a5, a6, some (.int z), a8] (.int z :: st) M x := Rs_next c394_3033 rfl
theorem c394_3035 : qx_code 394 3035 = some (3035, .i2l, 3036, 0, 0, 0) := by decide +kernel
theorem s394_3035 {L : Nat} {xs : Nat → Int32} {d x : Nat} {M : qxM} {st : List Value} {ls : qxL} {z : Int32} : Rs L xs (d) 394 3035 ls (.int z :: st) M x = Rs L xs (d) 394 3036 ls (.long z.toInt64 :: st) M x := Rs_next c394_3035 rfl
theorem c394_3036 : qx_code 394 3036 = some (3036, .lcmp, 3037, 0, 0, 0) := by decide +kernel
theorem s394_3036 {L : Nat} {xs : Nat → Int32} {d x : Nat} {M : qxM} {st : List Value} {ls : qxL} {z y : Int64} : Rs L xs (d) 394 3036 ls (.long y :: .long z :: st) M x = Rs L xs (d) 394 3037 ls (.int (lg_cmp z y) :: st) M x := Rs_next c394_3036 rfl
theorem c394_3037 : qx_code 394 3037 = some (3037, .ifCond .eq 5, 3040, 3042, 0, 0) := by decide +kernel
theorem s394_3037 {L : Nat} {xs : Nat → Int32} {d x : Nat} {M : qxM} {st : List Value} {ls : qxL} {z : Int32} : Rs L xs (d) 394 3037 ls (.int z :: st) M x = if z = 0 then Rs L xs (d) 394 3042 ls st M x else Rs L xs (d) 394 3040 ls st M x := Rs_ite c394_3037 rfl
theorem c394_3042 : qx_code 394 3042 = some (3042, .goto 704, 3045, 3746, 0, 0) := by decide +kernel
theorem s394_3042 {L : Nat} {xs : Nat → Int32} {d x : Nat} {M : qxM} {st : List Value} {ls : qxL} : Rs L xs (d) 394 3042 ls st M x = Rs L xs (d) 394 3746 ls st M x := Rs_next c394_3042 rfl
theorem c394_3045 : qx_code 394 3045 = some (3045, .aload_n 1, 3046, 0, 0, 0) := by decide +kernel
theorem s394_3045 {L : Nat} {xs : Nat → Int32} {d x : Nat} {M : qxM} {st : List Value} {a0 a2 a3 a4 a5 a6 a7 a8 : Option Value} {z : Nat} : Rs L xs (d) 394 3045 [a0, some (.ref z), a2, a3, a4, a5, a6, a7, a8] st M x = Rs L xs (d) 394 3046 [a0, some (.ref z), a2, a3, a4, a5, a6, a7, a8] (.ref z :: st) M x := Rs_next c394_3045 rfl
theorem c394_3046 : qx_code 394 3046 = some (3046, .aload_n 3, 3047, 0, 0, 0) := by decide +kernel
theorem s394_3046 {L : Nat} {xs : Nat → Int32} {d x : Nat} {M : qxM} {st : List Value} {a0 a1 a2 a4 a5 a6 a7 a8 : Option Value} {z : Nat} : Rs L xs (d) 394 3046 [a0, a1, a2, some (.ref z), a4, a5, a6, a7, a8] st M x = Rs L xs (d) 394 3047 [a0, a1, a2, some (.ref z), a4, a5, a6, a7, a8] (.ref z :: st) M x := Rs_next c394_3046 rfl
theorem c394_3047 : qx_code 394 3047 = some (3047, .invokestatic 375, 3050, 382, 2, 1428) := by decide +kernel
theorem s394_3047 {L : Nat} {xs : Nat → Int32} {d x : Nat} {M : qxM} {st : List Value} {ls : qxL} {z0 : Nat} {z1 : Nat} (hs : st.length ≤ 4) : Rs L xs (d + 1) 394 3047 ls (.ref z1 :: .ref z0 :: st) M x = (Rs L xs d 382 0 [some (.ref z0), some (.ref z1), none] [] M 0).bind (qx_kn L xs (d + 1) 394 3047 3050 382 ls st x) := by
  have h1 : qx_act L xs (qx_rt 394) (3047, .invokestatic 375, 3050, 382, 2, 1428) ls (.ref z1 :: .ref z0 :: st) M = if 2 ≤ (.ref z1 :: .ref z0 :: st).length ∧ st.length ≤ 4 then some (.inr (.inr (.inr (382, [.ref z0, .ref z1], st)))) else none := rfl
  rw [if_pos ⟨by simp [List.length_cons]; try omega, hs⟩] at h1
  exact Rs_call c394_3047 h1 rfl
theorem c394_3050 : qx_code 394 3050 = some (3050, .istore 6, 3052, 0, 0, 0) := by decide +kernel
theorem s394_3050i {L : Nat} {xs : Nat → Int32} {d x : Nat} {M : qxM} {st : List Value} {a0 a1 a2 a3 a4 a6 a7 a8 : Option Value} {z : Int32} {y : Int32} : Rs L xs (d) 394 3050 [a0, a1, a2, a3, a4, some (.int y), a6, a7, a8] (.int z :: st) M x = Rs L xs (d) 394 3052 [a0, a1, a2, a3, a4, some (.int y), some (.int z), a7, a8] st M x := Rs_next c394_3050 rfl
theorem c394_3052 : qx_code 394 3052 = some (3052, .aload_n 2, 3053, 0, 0, 0) := by decide +kernel
theorem s394_3052 {L : Nat} {xs : Nat → Int32} {d x : Nat} {M : qxM} {st : List Value} {a0 a1 a3 a4 a5 a6 a7 a8 : Option Value} {z : Nat} : Rs L xs (d) 394 3052 [a0, a1, some (.ref z), a3, a4, a5, a6, a7, a8] st M x = Rs L xs (d) 394 3053 [a0, a1, some (.ref z), a3, a4, a5, a6, a7, a8] (.ref z :: st) M x := Rs_next c394_3052 rfl
theorem c394_3053 : qx_code 394 3053 = some (3053, .invokevirtual 377, 3056, 321, 1, 2181) := by decide +kernel
theorem s394_3053 {L : Nat} {xs : Nat → Int32} {d x : Nat} {M : qxM} {st : List Value} {ls : qxL} {t : Nat} (hk : qx_kd t = 18) (hs : st.length ≤ 4) : Rs L xs (d + 1) 394 3053 ls (.ref t :: st) M x = (Rs L xs d 321 0 [some (.ref t)] [] M 0).bind (qx_kn L xs (d + 1) 394 3053 3056 321 ls st x) := by
  have h1 : qx_act L xs (qx_rt 394) (3053, .invokevirtual 377, 3056, 321, 1, 2181) ls (.ref t :: st) M = if 1 ≤ (.ref t :: st).length ∧ st.length ≤ 4 then some (.inr (.inr (.inr (321, [.ref t], st)))) else none := rfl
  rw [if_pos ⟨by simp [List.length_cons]; try omega, hs⟩] at h1
  have h2 := qx_kd_obj (k := 8) (by decide) hk
  exact Rs_call c394_3053 h1 (by rw [show qx_args 321 [.ref t] = decide (qx_sh t = some (.inl 8)) from rfl]; exact decide_eq_true h2)
theorem c394_3056 : qx_code 394 3056 = some (3056, .istore 7, 3058, 0, 0, 0) := by decide +kernel
theorem s394_3056i {L : Nat} {xs : Nat → Int32} {d x : Nat} {M : qxM} {st : List Value} {a0 a1 a2 a3 a4 a5 a7 a8 : Option Value} {z : Int32} {y : Int32} : Rs L xs (d) 394 3056 [a0, a1, a2, a3, a4, a5, some (.int y), a7, a8] (.int z :: st) M x = Rs L xs (d) 394 3058 [a0, a1, a2, a3, a4, a5, some (.int y), some (.int z), a8] st M x := Rs_next c394_3056 rfl
theorem c394_3058 : qx_code 394 3058 = some (3058, .aload_n 2, 3059, 0, 0, 0) := by decide +kernel
theorem s394_3058 {L : Nat} {xs : Nat → Int32} {d x : Nat} {M : qxM} {st : List Value} {a0 a1 a3 a4 a5 a6 a7 a8 : Option Value} {z : Nat} : Rs L xs (d) 394 3058 [a0, a1, some (.ref z), a3, a4, a5, a6, a7, a8] st M x = Rs L xs (d) 394 3059 [a0, a1, some (.ref z), a3, a4, a5, a6, a7, a8] (.ref z :: st) M x := Rs_next c394_3058 rfl
theorem c394_3059 : qx_code 394 3059 = some (3059, .invokevirtual 218, 3062, 177, 1, 1613) := by decide +kernel
theorem s394_3059 {L : Nat} {xs : Nat → Int32} {d x : Nat} {M : qxM} {st : List Value} {ls : qxL} {t : Nat} (hk : qx_kd t = 18) (hs : st.length ≤ 4) : Rs L xs (d + 1) 394 3059 ls (.ref t :: st) M x = (Rs L xs d 177 0 [some (.ref t)] [] M 0).bind (qx_kn L xs (d + 1) 394 3059 3062 177 ls st x) := by
  have h1 : qx_act L xs (qx_rt 394) (3059, .invokevirtual 218, 3062, 177, 1, 1613) ls (.ref t :: st) M = if 1 ≤ (.ref t :: st).length ∧ st.length ≤ 4 then some (.inr (.inr (.inr (177, [.ref t], st)))) else none := rfl
  rw [if_pos ⟨by simp [List.length_cons]; try omega, hs⟩] at h1
  have h2 := qx_kd_obj (k := 8) (by decide) hk
  exact Rs_call c394_3059 h1 (by rw [show qx_args 177 [.ref t] = decide (qx_sh t = some (.inl 8)) from rfl]; exact decide_eq_true h2)
theorem c394_3062 : qx_code 394 3062 = some (3062, .iload 6, 3064, 0, 0, 0) := by decide +kernel
theorem s394_3062 {L : Nat} {xs : Nat → Int32} {d x : Nat} {M : qxM} {st : List Value} {a0 a1 a2 a3 a4 a5 a7 a8 : Option Value} {z : Int32} : Rs L xs (d) 394 3062 [a0, a1, a2, a3, a4, a5, some (.int z), a7, a8] st M x = Rs L xs (d) 394 3064 [a0, a1, a2, a3, a4, a5, some (.int z), a7, a8] (.int z :: st) M x := Rs_next c394_3062 rfl
theorem c394_3064 : qx_code 394 3064 = some (3064, .if_icmp .eq 5, 3067, 3069, 0, 0) := by decide +kernel
theorem s394_3064 {L : Nat} {xs : Nat → Int32} {d x : Nat} {M : qxM} {st : List Value} {ls : qxL} {z y : Int32} : Rs L xs (d) 394 3064 ls (.int y :: .int z :: st) M x = if z = y then Rs L xs (d) 394 3069 ls st M x else Rs L xs (d) 394 3067 ls st M x := Rs_ite c394_3064 rfl
theorem c394_3069 : qx_code 394 3069 = some (3069, .iload 6, 3071, 0, 0, 0) := by decide +kernel
theorem s394_3069 {L : Nat} {xs : Nat → Int32} {d x : Nat} {M : qxM} {st : List Value} {a0 a1 a2 a3 a4 a5 a7 a8 : Option Value} {z : Int32} : Rs L xs (d) 394 3069 [a0, a1, a2, a3, a4, a5, some (.int z), a7, a8] st M x = Rs L xs (d) 394 3071 [a0, a1, a2, a3, a4, a5, some (.int z), a7, a8] (.int z :: st) M x := Rs_next c394_3069 rfl
theorem c394_3071 : qx_code 394 3071 = some (3071, .ifCond .ne 15, 3074, 3086, 0, 0) := by decide +kernel
theorem s394_3071 {L : Nat} {xs : Nat → Int32} {d x : Nat} {M : qxM} {st : List Value} {ls : qxL} {z : Int32} : Rs L xs (d) 394 3071 ls (.int z :: st) M x = if z = 0 then Rs L xs (d) 394 3074 ls st M x else Rs L xs (d) 394 3086 ls st M x := Rs_ite c394_3071 rfl
theorem c394_3074 : qx_code 394 3074 = some (3074, .aload_n 3, 3075, 0, 0, 0) := by decide +kernel
theorem s394_3074 {L : Nat} {xs : Nat → Int32} {d x : Nat} {M : qxM} {st : List Value} {a0 a1 a2 a4 a5 a6 a7 a8 : Option Value} {z : Nat} : Rs L xs (d) 394 3074 [a0, a1, a2, some (.ref z), a4, a5, a6, a7, a8] st M x = Rs L xs (d) 394 3075 [a0, a1, a2, some (.ref z), a4, a5, a6, a7, a8] (.ref z :: st) M x := Rs_next c394_3074 rfl
theorem c394_3075 : qx_code 394 3075 = some (3075, .iconst 0, 3076, 0, 0, 0) := by decide +kernel
theorem s394_3075 {L : Nat} {xs : Nat → Int32} {d x : Nat} {M : qxM} {st : List Value} {ls : qxL} : Rs L xs (d) 394 3075 ls st M x = Rs L xs (d) 394 3076 ls (.int (nI 0) :: st) M x := Rs_next c394_3075 rfl
theorem c394_3076 : qx_code 394 3076 = some (3076, .laload, 3077, 0, 0, 0) := by decide +kernel
theorem s394_3076 {L : Nat} {xs : Nat → Int32} {d x : Nat} {M : qxM} {st : List Value} {ls : qxL} {t : Nat} {j : Int32} (hk : qx_kd t = 4) (hj : qx_ib j (qx_ln t) = true) : Rs L xs (d) 394 3076 ls (.int j :: .ref t :: st) M x = Rs L xs (d) 394 3077 ls (.long (M.2.1 j.toNatClampNeg) :: st) M x := by
  have h1 := qx_kd_row (k := 4) (by decide) hk
  exact Rs_unless (qx_ib_not hj) c394_3076 (by unfold qx_act; dsimp only; rw [h1]; rfl)
theorem c394_3077 : qx_code 394 3077 = some (3077, .iload 7, 3079, 0, 0, 0) := by decide +kernel
theorem s394_3077 {L : Nat} {xs : Nat → Int32} {d x : Nat} {M : qxM} {st : List Value} {a0 a1 a2 a3 a4 a5 a6 a8 : Option Value} {z : Int32} : Rs L xs (d) 394 3077 [a0, a1, a2, a3, a4, a5, a6, some (.int z), a8] st M x = Rs L xs (d) 394 3079 [a0, a1, a2, a3, a4, a5, a6, some (.int z), a8] (.int z :: st) M x := Rs_next c394_3077 rfl
theorem c394_3079 : qx_code 394 3079 = some (3079, .i2l, 3080, 0, 0, 0) := by decide +kernel
theorem s394_3079 {L : Nat} {xs : Nat → Int32} {d x : Nat} {M : qxM} {st : List Value} {ls : qxL} {z : Int32} : Rs L xs (d) 394 3079 ls (.int z :: st) M x = Rs L xs (d) 394 3080 ls (.long z.toInt64 :: st) M x := Rs_next c394_3079 rfl
theorem c394_3080 : qx_code 394 3080 = some (3080, .lcmp, 3081, 0, 0, 0) := by decide +kernel
theorem s394_3080 {L : Nat} {xs : Nat → Int32} {d x : Nat} {M : qxM} {st : List Value} {ls : qxL} {z y : Int64} : Rs L xs (d) 394 3080 ls (.long y :: .long z :: st) M x = Rs L xs (d) 394 3081 ls (.int (lg_cmp z y) :: st) M x := Rs_next c394_3080 rfl
theorem c394_3081 : qx_code 394 3081 = some (3081, .ifCond .eq 5, 3084, 3086, 0, 0) := by decide +kernel
theorem s394_3081 {L : Nat} {xs : Nat → Int32} {d x : Nat} {M : qxM} {st : List Value} {ls : qxL} {z : Int32} : Rs L xs (d) 394 3081 ls (.int z :: st) M x = if z = 0 then Rs L xs (d) 394 3086 ls st M x else Rs L xs (d) 394 3084 ls st M x := Rs_ite c394_3081 rfl
theorem c394_3086 : qx_code 394 3086 = some (3086, .goto 660, 3089, 3746, 0, 0) := by decide +kernel
theorem s394_3086 {L : Nat} {xs : Nat → Int32} {d x : Nat} {M : qxM} {st : List Value} {ls : qxL} : Rs L xs (d) 394 3086 ls st M x = Rs L xs (d) 394 3746 ls st M x := Rs_next c394_3086 rfl
theorem c394_3089 : qx_code 394 3089 = some (3089, .aload_n 1, 3090, 0, 0, 0) := by decide +kernel
theorem s394_3089 {L : Nat} {xs : Nat → Int32} {d x : Nat} {M : qxM} {st : List Value} {a0 a2 a3 a4 a5 a6 a7 a8 : Option Value} {z : Nat} : Rs L xs (d) 394 3089 [a0, some (.ref z), a2, a3, a4, a5, a6, a7, a8] st M x = Rs L xs (d) 394 3090 [a0, some (.ref z), a2, a3, a4, a5, a6, a7, a8] (.ref z :: st) M x := Rs_next c394_3089 rfl
theorem c394_3090 : qx_code 394 3090 = some (3090, .aload_n 3, 3091, 0, 0, 0) := by decide +kernel
theorem s394_3090 {L : Nat} {xs : Nat → Int32} {d x : Nat} {M : qxM} {st : List Value} {a0 a1 a2 a4 a5 a6 a7 a8 : Option Value} {z : Nat} : Rs L xs (d) 394 3090 [a0, a1, a2, some (.ref z), a4, a5, a6, a7, a8] st M x = Rs L xs (d) 394 3091 [a0, a1, a2, some (.ref z), a4, a5, a6, a7, a8] (.ref z :: st) M x := Rs_next c394_3090 rfl
theorem c394_3091 : qx_code 394 3091 = some (3091, .invokestatic 378, 3094, 383, 2, 1444) := by decide +kernel
theorem s394_3091 {L : Nat} {xs : Nat → Int32} {d x : Nat} {M : qxM} {st : List Value} {ls : qxL} {z0 : Nat} {z1 : Nat} (hs : st.length ≤ 4) : Rs L xs (d + 1) 394 3091 ls (.ref z1 :: .ref z0 :: st) M x = (Rs L xs d 383 0 [some (.ref z0), some (.ref z1), none] [] M 0).bind (qx_kn L xs (d + 1) 394 3091 3094 383 ls st x) := by
  have h1 : qx_act L xs (qx_rt 394) (3091, .invokestatic 378, 3094, 383, 2, 1444) ls (.ref z1 :: .ref z0 :: st) M = if 2 ≤ (.ref z1 :: .ref z0 :: st).length ∧ st.length ≤ 4 then some (.inr (.inr (.inr (383, [.ref z0, .ref z1], st)))) else none := rfl
  rw [if_pos ⟨by simp [List.length_cons]; try omega, hs⟩] at h1
  exact Rs_call c394_3091 h1 rfl
theorem c394_3094 : qx_code 394 3094 = some (3094, .istore 6, 3096, 0, 0, 0) := by decide +kernel
theorem s394_3094i {L : Nat} {xs : Nat → Int32} {d x : Nat} {M : qxM} {st : List Value} {a0 a1 a2 a3 a4 a6 a7 a8 : Option Value} {z : Int32} {y : Int32} : Rs L xs (d) 394 3094 [a0, a1, a2, a3, a4, some (.int y), a6, a7, a8] (.int z :: st) M x = Rs L xs (d) 394 3096 [a0, a1, a2, a3, a4, some (.int y), some (.int z), a7, a8] st M x := Rs_next c394_3094 rfl
theorem c394_3096 : qx_code 394 3096 = some (3096, .aload_n 2, 3097, 0, 0, 0) := by decide +kernel
theorem s394_3096 {L : Nat} {xs : Nat → Int32} {d x : Nat} {M : qxM} {st : List Value} {a0 a1 a3 a4 a5 a6 a7 a8 : Option Value} {z : Nat} : Rs L xs (d) 394 3096 [a0, a1, some (.ref z), a3, a4, a5, a6, a7, a8] st M x = Rs L xs (d) 394 3097 [a0, a1, some (.ref z), a3, a4, a5, a6, a7, a8] (.ref z :: st) M x := Rs_next c394_3096 rfl
theorem c394_3097 : qx_code 394 3097 = some (3097, .invokevirtual 380, 3100, 322, 1, 2185) := by decide +kernel
theorem s394_3097 {L : Nat} {xs : Nat → Int32} {d x : Nat} {M : qxM} {st : List Value} {ls : qxL} {t : Nat} (hk : qx_kd t = 18) (hs : st.length ≤ 4) : Rs L xs (d + 1) 394 3097 ls (.ref t :: st) M x = (Rs L xs d 322 0 [some (.ref t)] [] M 0).bind (qx_kn L xs (d + 1) 394 3097 3100 322 ls st x) := by
  have h1 : qx_act L xs (qx_rt 394) (3097, .invokevirtual 380, 3100, 322, 1, 2185) ls (.ref t :: st) M = if 1 ≤ (.ref t :: st).length ∧ st.length ≤ 4 then some (.inr (.inr (.inr (322, [.ref t], st)))) else none := rfl
  rw [if_pos ⟨by simp [List.length_cons]; try omega, hs⟩] at h1
  have h2 := qx_kd_obj (k := 8) (by decide) hk
  exact Rs_call c394_3097 h1 (by rw [show qx_args 322 [.ref t] = decide (qx_sh t = some (.inl 8)) from rfl]; exact decide_eq_true h2)
theorem c394_3100 : qx_code 394 3100 = some (3100, .istore 7, 3102, 0, 0, 0) := by decide +kernel
theorem s394_3100i {L : Nat} {xs : Nat → Int32} {d x : Nat} {M : qxM} {st : List Value} {a0 a1 a2 a3 a4 a5 a7 a8 : Option Value} {z : Int32} {y : Int32} : Rs L xs (d) 394 3100 [a0, a1, a2, a3, a4, a5, some (.int y), a7, a8] (.int z :: st) M x = Rs L xs (d) 394 3102 [a0, a1, a2, a3, a4, a5, some (.int y), some (.int z), a8] st M x := Rs_next c394_3100 rfl
theorem c394_3102 : qx_code 394 3102 = some (3102, .aload_n 2, 3103, 0, 0, 0) := by decide +kernel
theorem s394_3102 {L : Nat} {xs : Nat → Int32} {d x : Nat} {M : qxM} {st : List Value} {a0 a1 a3 a4 a5 a6 a7 a8 : Option Value} {z : Nat} : Rs L xs (d) 394 3102 [a0, a1, some (.ref z), a3, a4, a5, a6, a7, a8] st M x = Rs L xs (d) 394 3103 [a0, a1, some (.ref z), a3, a4, a5, a6, a7, a8] (.ref z :: st) M x := Rs_next c394_3102 rfl
theorem c394_3103 : qx_code 394 3103 = some (3103, .invokevirtual 218, 3106, 177, 1, 1613) := by decide +kernel
theorem s394_3103 {L : Nat} {xs : Nat → Int32} {d x : Nat} {M : qxM} {st : List Value} {ls : qxL} {t : Nat} (hk : qx_kd t = 18) (hs : st.length ≤ 4) : Rs L xs (d + 1) 394 3103 ls (.ref t :: st) M x = (Rs L xs d 177 0 [some (.ref t)] [] M 0).bind (qx_kn L xs (d + 1) 394 3103 3106 177 ls st x) := by
  have h1 : qx_act L xs (qx_rt 394) (3103, .invokevirtual 218, 3106, 177, 1, 1613) ls (.ref t :: st) M = if 1 ≤ (.ref t :: st).length ∧ st.length ≤ 4 then some (.inr (.inr (.inr (177, [.ref t], st)))) else none := rfl
  rw [if_pos ⟨by simp [List.length_cons]; try omega, hs⟩] at h1
  have h2 := qx_kd_obj (k := 8) (by decide) hk
  exact Rs_call c394_3103 h1 (by rw [show qx_args 177 [.ref t] = decide (qx_sh t = some (.inl 8)) from rfl]; exact decide_eq_true h2)
theorem c394_3106 : qx_code 394 3106 = some (3106, .iload 6, 3108, 0, 0, 0) := by decide +kernel
theorem s394_3106 {L : Nat} {xs : Nat → Int32} {d x : Nat} {M : qxM} {st : List Value} {a0 a1 a2 a3 a4 a5 a7 a8 : Option Value} {z : Int32} : Rs L xs (d) 394 3106 [a0, a1, a2, a3, a4, a5, some (.int z), a7, a8] st M x = Rs L xs (d) 394 3108 [a0, a1, a2, a3, a4, a5, some (.int z), a7, a8] (.int z :: st) M x := Rs_next c394_3106 rfl
theorem c394_3108 : qx_code 394 3108 = some (3108, .if_icmp .eq 5, 3111, 3113, 0, 0) := by decide +kernel
theorem s394_3108 {L : Nat} {xs : Nat → Int32} {d x : Nat} {M : qxM} {st : List Value} {ls : qxL} {z y : Int32} : Rs L xs (d) 394 3108 ls (.int y :: .int z :: st) M x = if z = y then Rs L xs (d) 394 3113 ls st M x else Rs L xs (d) 394 3111 ls st M x := Rs_ite c394_3108 rfl
theorem c394_3113 : qx_code 394 3113 = some (3113, .iload 6, 3115, 0, 0, 0) := by decide +kernel
theorem s394_3113 {L : Nat} {xs : Nat → Int32} {d x : Nat} {M : qxM} {st : List Value} {a0 a1 a2 a3 a4 a5 a7 a8 : Option Value} {z : Int32} : Rs L xs (d) 394 3113 [a0, a1, a2, a3, a4, a5, some (.int z), a7, a8] st M x = Rs L xs (d) 394 3115 [a0, a1, a2, a3, a4, a5, some (.int z), a7, a8] (.int z :: st) M x := Rs_next c394_3113 rfl
theorem c394_3115 : qx_code 394 3115 = some (3115, .ifCond .ne 15, 3118, 3130, 0, 0) := by decide +kernel
theorem s394_3115 {L : Nat} {xs : Nat → Int32} {d x : Nat} {M : qxM} {st : List Value} {ls : qxL} {z : Int32} : Rs L xs (d) 394 3115 ls (.int z :: st) M x = if z = 0 then Rs L xs (d) 394 3118 ls st M x else Rs L xs (d) 394 3130 ls st M x := Rs_ite c394_3115 rfl
theorem c394_3118 : qx_code 394 3118 = some (3118, .aload_n 3, 3119, 0, 0, 0) := by decide +kernel
theorem s394_3118 {L : Nat} {xs : Nat → Int32} {d x : Nat} {M : qxM} {st : List Value} {a0 a1 a2 a4 a5 a6 a7 a8 : Option Value} {z : Nat} : Rs L xs (d) 394 3118 [a0, a1, a2, some (.ref z), a4, a5, a6, a7, a8] st M x = Rs L xs (d) 394 3119 [a0, a1, a2, some (.ref z), a4, a5, a6, a7, a8] (.ref z :: st) M x := Rs_next c394_3118 rfl
theorem c394_3119 : qx_code 394 3119 = some (3119, .iconst 0, 3120, 0, 0, 0) := by decide +kernel
theorem s394_3119 {L : Nat} {xs : Nat → Int32} {d x : Nat} {M : qxM} {st : List Value} {ls : qxL} : Rs L xs (d) 394 3119 ls st M x = Rs L xs (d) 394 3120 ls (.int (nI 0) :: st) M x := Rs_next c394_3119 rfl
theorem c394_3120 : qx_code 394 3120 = some (3120, .laload, 3121, 0, 0, 0) := by decide +kernel
theorem s394_3120 {L : Nat} {xs : Nat → Int32} {d x : Nat} {M : qxM} {st : List Value} {ls : qxL} {t : Nat} {j : Int32} (hk : qx_kd t = 4) (hj : qx_ib j (qx_ln t) = true) : Rs L xs (d) 394 3120 ls (.int j :: .ref t :: st) M x = Rs L xs (d) 394 3121 ls (.long (M.2.1 j.toNatClampNeg) :: st) M x := by
  have h1 := qx_kd_row (k := 4) (by decide) hk
  exact Rs_unless (qx_ib_not hj) c394_3120 (by unfold qx_act; dsimp only; rw [h1]; rfl)
theorem c394_3121 : qx_code 394 3121 = some (3121, .iload 7, 3123, 0, 0, 0) := by decide +kernel
theorem s394_3121 {L : Nat} {xs : Nat → Int32} {d x : Nat} {M : qxM} {st : List Value} {a0 a1 a2 a3 a4 a5 a6 a8 : Option Value} {z : Int32} : Rs L xs (d) 394 3121 [a0, a1, a2, a3, a4, a5, a6, some (.int z), a8] st M x = Rs L xs (d) 394 3123 [a0, a1, a2, a3, a4, a5, a6, some (.int z), a8] (.int z :: st) M x := Rs_next c394_3121 rfl
theorem c394_3123 : qx_code 394 3123 = some (3123, .i2l, 3124, 0, 0, 0) := by decide +kernel
theorem s394_3123 {L : Nat} {xs : Nat → Int32} {d x : Nat} {M : qxM} {st : List Value} {ls : qxL} {z : Int32} : Rs L xs (d) 394 3123 ls (.int z :: st) M x = Rs L xs (d) 394 3124 ls (.long z.toInt64 :: st) M x := Rs_next c394_3123 rfl
theorem c394_3124 : qx_code 394 3124 = some (3124, .lcmp, 3125, 0, 0, 0) := by decide +kernel
theorem s394_3124 {L : Nat} {xs : Nat → Int32} {d x : Nat} {M : qxM} {st : List Value} {ls : qxL} {z y : Int64} : Rs L xs (d) 394 3124 ls (.long y :: .long z :: st) M x = Rs L xs (d) 394 3125 ls (.int (lg_cmp z y) :: st) M x := Rs_next c394_3124 rfl
theorem c394_3125 : qx_code 394 3125 = some (3125, .ifCond .eq 5, 3128, 3130, 0, 0) := by decide +kernel
theorem s394_3125 {L : Nat} {xs : Nat → Int32} {d x : Nat} {M : qxM} {st : List Value} {ls : qxL} {z : Int32} : Rs L xs (d) 394 3125 ls (.int z :: st) M x = if z = 0 then Rs L xs (d) 394 3130 ls st M x else Rs L xs (d) 394 3128 ls st M x := Rs_ite c394_3125 rfl
theorem c394_3130 : qx_code 394 3130 = some (3130, .goto 616, 3133, 3746, 0, 0) := by decide +kernel
theorem s394_3130 {L : Nat} {xs : Nat → Int32} {d x : Nat} {M : qxM} {st : List Value} {ls : qxL} : Rs L xs (d) 394 3130 ls st M x = Rs L xs (d) 394 3746 ls st M x := Rs_next c394_3130 rfl
theorem c394_3133 : qx_code 394 3133 = some (3133, .aload_n 1, 3134, 0, 0, 0) := by decide +kernel
theorem s394_3133 {L : Nat} {xs : Nat → Int32} {d x : Nat} {M : qxM} {st : List Value} {a0 a2 a3 a4 a5 a6 a7 a8 : Option Value} {z : Nat} : Rs L xs (d) 394 3133 [a0, some (.ref z), a2, a3, a4, a5, a6, a7, a8] st M x = Rs L xs (d) 394 3134 [a0, some (.ref z), a2, a3, a4, a5, a6, a7, a8] (.ref z :: st) M x := Rs_next c394_3133 rfl
theorem c394_3134 : qx_code 394 3134 = some (3134, .aload_n 3, 3135, 0, 0, 0) := by decide +kernel
theorem s394_3134 {L : Nat} {xs : Nat → Int32} {d x : Nat} {M : qxM} {st : List Value} {a0 a1 a2 a4 a5 a6 a7 a8 : Option Value} {z : Nat} : Rs L xs (d) 394 3134 [a0, a1, a2, some (.ref z), a4, a5, a6, a7, a8] st M x = Rs L xs (d) 394 3135 [a0, a1, a2, some (.ref z), a4, a5, a6, a7, a8] (.ref z :: st) M x := Rs_next c394_3134 rfl
theorem c394_3135 : qx_code 394 3135 = some (3135, .invokestatic 381, 3138, 384, 2, 1451) := by decide +kernel
theorem s394_3135 {L : Nat} {xs : Nat → Int32} {d x : Nat} {M : qxM} {st : List Value} {ls : qxL} {z0 : Nat} {z1 : Nat} (hs : st.length ≤ 4) : Rs L xs (d + 1) 394 3135 ls (.ref z1 :: .ref z0 :: st) M x = (Rs L xs d 384 0 [some (.ref z0), some (.ref z1), none] [] M 0).bind (qx_kn L xs (d + 1) 394 3135 3138 384 ls st x) := by
  have h1 : qx_act L xs (qx_rt 394) (3135, .invokestatic 381, 3138, 384, 2, 1451) ls (.ref z1 :: .ref z0 :: st) M = if 2 ≤ (.ref z1 :: .ref z0 :: st).length ∧ st.length ≤ 4 then some (.inr (.inr (.inr (384, [.ref z0, .ref z1], st)))) else none := rfl
  rw [if_pos ⟨by simp [List.length_cons]; try omega, hs⟩] at h1
  exact Rs_call c394_3135 h1 rfl
theorem c394_3138 : qx_code 394 3138 = some (3138, .istore 6, 3140, 0, 0, 0) := by decide +kernel
theorem s394_3138i {L : Nat} {xs : Nat → Int32} {d x : Nat} {M : qxM} {st : List Value} {a0 a1 a2 a3 a4 a6 a7 a8 : Option Value} {z : Int32} {y : Int32} : Rs L xs (d) 394 3138 [a0, a1, a2, a3, a4, some (.int y), a6, a7, a8] (.int z :: st) M x = Rs L xs (d) 394 3140 [a0, a1, a2, a3, a4, some (.int y), some (.int z), a7, a8] st M x := Rs_next c394_3138 rfl
theorem c394_3140 : qx_code 394 3140 = some (3140, .aload_n 2, 3141, 0, 0, 0) := by decide +kernel
theorem s394_3140 {L : Nat} {xs : Nat → Int32} {d x : Nat} {M : qxM} {st : List Value} {a0 a1 a3 a4 a5 a6 a7 a8 : Option Value} {z : Nat} : Rs L xs (d) 394 3140 [a0, a1, some (.ref z), a3, a4, a5, a6, a7, a8] st M x = Rs L xs (d) 394 3141 [a0, a1, some (.ref z), a3, a4, a5, a6, a7, a8] (.ref z :: st) M x := Rs_next c394_3140 rfl
theorem c394_3141 : qx_code 394 3141 = some (3141, .invokevirtual 383, 3144, 323, 1, 2189) := by decide +kernel
theorem s394_3141 {L : Nat} {xs : Nat → Int32} {d x : Nat} {M : qxM} {st : List Value} {ls : qxL} {t : Nat} (hk : qx_kd t = 18) (hs : st.length ≤ 4) : Rs L xs (d + 1) 394 3141 ls (.ref t :: st) M x = (Rs L xs d 323 0 [some (.ref t), none, none, none] [] M 0).bind (qx_kn L xs (d + 1) 394 3141 3144 323 ls st x) := by
  have h1 : qx_act L xs (qx_rt 394) (3141, .invokevirtual 383, 3144, 323, 1, 2189) ls (.ref t :: st) M = if 1 ≤ (.ref t :: st).length ∧ st.length ≤ 4 then some (.inr (.inr (.inr (323, [.ref t], st)))) else none := rfl
  rw [if_pos ⟨by simp [List.length_cons]; try omega, hs⟩] at h1
  have h2 := qx_kd_obj (k := 8) (by decide) hk
  exact Rs_call c394_3141 h1 (by rw [show qx_args 323 [.ref t] = decide (qx_sh t = some (.inl 8)) from rfl]; exact decide_eq_true h2)
theorem c394_3144 : qx_code 394 3144 = some (3144, .istore 7, 3146, 0, 0, 0) := by decide +kernel
theorem s394_3144i {L : Nat} {xs : Nat → Int32} {d x : Nat} {M : qxM} {st : List Value} {a0 a1 a2 a3 a4 a5 a7 a8 : Option Value} {z : Int32} {y : Int32} : Rs L xs (d) 394 3144 [a0, a1, a2, a3, a4, a5, some (.int y), a7, a8] (.int z :: st) M x = Rs L xs (d) 394 3146 [a0, a1, a2, a3, a4, a5, some (.int y), some (.int z), a8] st M x := Rs_next c394_3144 rfl
theorem c394_3146 : qx_code 394 3146 = some (3146, .aload_n 2, 3147, 0, 0, 0) := by decide +kernel
theorem s394_3146 {L : Nat} {xs : Nat → Int32} {d x : Nat} {M : qxM} {st : List Value} {a0 a1 a3 a4 a5 a6 a7 a8 : Option Value} {z : Nat} : Rs L xs (d) 394 3146 [a0, a1, some (.ref z), a3, a4, a5, a6, a7, a8] st M x = Rs L xs (d) 394 3147 [a0, a1, some (.ref z), a3, a4, a5, a6, a7, a8] (.ref z :: st) M x := Rs_next c394_3146 rfl
theorem c394_3147 : qx_code 394 3147 = some (3147, .invokevirtual 218, 3150, 177, 1, 1613) := by decide +kernel
theorem s394_3147 {L : Nat} {xs : Nat → Int32} {d x : Nat} {M : qxM} {st : List Value} {ls : qxL} {t : Nat} (hk : qx_kd t = 18) (hs : st.length ≤ 4) : Rs L xs (d + 1) 394 3147 ls (.ref t :: st) M x = (Rs L xs d 177 0 [some (.ref t)] [] M 0).bind (qx_kn L xs (d + 1) 394 3147 3150 177 ls st x) := by
  have h1 : qx_act L xs (qx_rt 394) (3147, .invokevirtual 218, 3150, 177, 1, 1613) ls (.ref t :: st) M = if 1 ≤ (.ref t :: st).length ∧ st.length ≤ 4 then some (.inr (.inr (.inr (177, [.ref t], st)))) else none := rfl
  rw [if_pos ⟨by simp [List.length_cons]; try omega, hs⟩] at h1
  have h2 := qx_kd_obj (k := 8) (by decide) hk
  exact Rs_call c394_3147 h1 (by rw [show qx_args 177 [.ref t] = decide (qx_sh t = some (.inl 8)) from rfl]; exact decide_eq_true h2)
theorem c394_3150 : qx_code 394 3150 = some (3150, .iload 6, 3152, 0, 0, 0) := by decide +kernel
theorem s394_3150 {L : Nat} {xs : Nat → Int32} {d x : Nat} {M : qxM} {st : List Value} {a0 a1 a2 a3 a4 a5 a7 a8 : Option Value} {z : Int32} : Rs L xs (d) 394 3150 [a0, a1, a2, a3, a4, a5, some (.int z), a7, a8] st M x = Rs L xs (d) 394 3152 [a0, a1, a2, a3, a4, a5, some (.int z), a7, a8] (.int z :: st) M x := Rs_next c394_3150 rfl
theorem c394_3152 : qx_code 394 3152 = some (3152, .if_icmp .eq 5, 3155, 3157, 0, 0) := by decide +kernel
theorem s394_3152 {L : Nat} {xs : Nat → Int32} {d x : Nat} {M : qxM} {st : List Value} {ls : qxL} {z y : Int32} : Rs L xs (d) 394 3152 ls (.int y :: .int z :: st) M x = if z = y then Rs L xs (d) 394 3157 ls st M x else Rs L xs (d) 394 3155 ls st M x := Rs_ite c394_3152 rfl
theorem c394_3157 : qx_code 394 3157 = some (3157, .iload 6, 3159, 0, 0, 0) := by decide +kernel
theorem s394_3157 {L : Nat} {xs : Nat → Int32} {d x : Nat} {M : qxM} {st : List Value} {a0 a1 a2 a3 a4 a5 a7 a8 : Option Value} {z : Int32} : Rs L xs (d) 394 3157 [a0, a1, a2, a3, a4, a5, some (.int z), a7, a8] st M x = Rs L xs (d) 394 3159 [a0, a1, a2, a3, a4, a5, some (.int z), a7, a8] (.int z :: st) M x := Rs_next c394_3157 rfl
theorem c394_3159 : qx_code 394 3159 = some (3159, .ifCond .ne 15, 3162, 3174, 0, 0) := by decide +kernel
theorem s394_3159 {L : Nat} {xs : Nat → Int32} {d x : Nat} {M : qxM} {st : List Value} {ls : qxL} {z : Int32} : Rs L xs (d) 394 3159 ls (.int z :: st) M x = if z = 0 then Rs L xs (d) 394 3162 ls st M x else Rs L xs (d) 394 3174 ls st M x := Rs_ite c394_3159 rfl
theorem c394_3162 : qx_code 394 3162 = some (3162, .aload_n 3, 3163, 0, 0, 0) := by decide +kernel
theorem s394_3162 {L : Nat} {xs : Nat → Int32} {d x : Nat} {M : qxM} {st : List Value} {a0 a1 a2 a4 a5 a6 a7 a8 : Option Value} {z : Nat} : Rs L xs (d) 394 3162 [a0, a1, a2, some (.ref z), a4, a5, a6, a7, a8] st M x = Rs L xs (d) 394 3163 [a0, a1, a2, some (.ref z), a4, a5, a6, a7, a8] (.ref z :: st) M x := Rs_next c394_3162 rfl
theorem c394_3163 : qx_code 394 3163 = some (3163, .iconst 0, 3164, 0, 0, 0) := by decide +kernel
theorem s394_3163 {L : Nat} {xs : Nat → Int32} {d x : Nat} {M : qxM} {st : List Value} {ls : qxL} : Rs L xs (d) 394 3163 ls st M x = Rs L xs (d) 394 3164 ls (.int (nI 0) :: st) M x := Rs_next c394_3163 rfl
theorem c394_3164 : qx_code 394 3164 = some (3164, .laload, 3165, 0, 0, 0) := by decide +kernel
theorem s394_3164 {L : Nat} {xs : Nat → Int32} {d x : Nat} {M : qxM} {st : List Value} {ls : qxL} {t : Nat} {j : Int32} (hk : qx_kd t = 4) (hj : qx_ib j (qx_ln t) = true) : Rs L xs (d) 394 3164 ls (.int j :: .ref t :: st) M x = Rs L xs (d) 394 3165 ls (.long (M.2.1 j.toNatClampNeg) :: st) M x := by
  have h1 := qx_kd_row (k := 4) (by decide) hk
  exact Rs_unless (qx_ib_not hj) c394_3164 (by unfold qx_act; dsimp only; rw [h1]; rfl)
theorem c394_3165 : qx_code 394 3165 = some (3165, .iload 7, 3167, 0, 0, 0) := by decide +kernel
theorem s394_3165 {L : Nat} {xs : Nat → Int32} {d x : Nat} {M : qxM} {st : List Value} {a0 a1 a2 a3 a4 a5 a6 a8 : Option Value} {z : Int32} : Rs L xs (d) 394 3165 [a0, a1, a2, a3, a4, a5, a6, some (.int z), a8] st M x = Rs L xs (d) 394 3167 [a0, a1, a2, a3, a4, a5, a6, some (.int z), a8] (.int z :: st) M x := Rs_next c394_3165 rfl
theorem c394_3167 : qx_code 394 3167 = some (3167, .i2l, 3168, 0, 0, 0) := by decide +kernel
theorem s394_3167 {L : Nat} {xs : Nat → Int32} {d x : Nat} {M : qxM} {st : List Value} {ls : qxL} {z : Int32} : Rs L xs (d) 394 3167 ls (.int z :: st) M x = Rs L xs (d) 394 3168 ls (.long z.toInt64 :: st) M x := Rs_next c394_3167 rfl
theorem c394_3168 : qx_code 394 3168 = some (3168, .lcmp, 3169, 0, 0, 0) := by decide +kernel
theorem s394_3168 {L : Nat} {xs : Nat → Int32} {d x : Nat} {M : qxM} {st : List Value} {ls : qxL} {z y : Int64} : Rs L xs (d) 394 3168 ls (.long y :: .long z :: st) M x = Rs L xs (d) 394 3169 ls (.int (lg_cmp z y) :: st) M x := Rs_next c394_3168 rfl
theorem c394_3169 : qx_code 394 3169 = some (3169, .ifCond .eq 5, 3172, 3174, 0, 0) := by decide +kernel
theorem s394_3169 {L : Nat} {xs : Nat → Int32} {d x : Nat} {M : qxM} {st : List Value} {ls : qxL} {z : Int32} : Rs L xs (d) 394 3169 ls (.int z :: st) M x = if z = 0 then Rs L xs (d) 394 3174 ls st M x else Rs L xs (d) 394 3172 ls st M x := Rs_ite c394_3169 rfl
theorem c394_3174 : qx_code 394 3174 = some (3174, .goto 572, 3177, 3746, 0, 0) := by decide +kernel
theorem s394_3174 {L : Nat} {xs : Nat → Int32} {d x : Nat} {M : qxM} {st : List Value} {ls : qxL} : Rs L xs (d) 394 3174 ls st M x = Rs L xs (d) 394 3746 ls st M x := Rs_next c394_3174 rfl
theorem c394_3177 : qx_code 394 3177 = some (3177, .aload_n 1, 3178, 0, 0, 0) := by decide +kernel
theorem s394_3177 {L : Nat} {xs : Nat → Int32} {d x : Nat} {M : qxM} {st : List Value} {a0 a2 a3 a4 a5 a6 a7 a8 : Option Value} {z : Nat} : Rs L xs (d) 394 3177 [a0, some (.ref z), a2, a3, a4, a5, a6, a7, a8] st M x = Rs L xs (d) 394 3178 [a0, some (.ref z), a2, a3, a4, a5, a6, a7, a8] (.ref z :: st) M x := Rs_next c394_3177 rfl
theorem c394_3178 : qx_code 394 3178 = some (3178, .aload_n 0, 3179, 0, 0, 0) := by decide +kernel
theorem s394_3178 {L : Nat} {xs : Nat → Int32} {d x : Nat} {M : qxM} {st : List Value} {a1 a2 a3 a4 a5 a6 a7 a8 : Option Value} {z : Nat} : Rs L xs (d) 394 3178 [some (.ref z), a1, a2, a3, a4, a5, a6, a7, a8] st M x = Rs L xs (d) 394 3179 [some (.ref z), a1, a2, a3, a4, a5, a6, a7, a8] (.ref z :: st) M x := Rs_next c394_3178 rfl
theorem c394_3179 : qx_code 394 3179 = some (3179, .iload 5, 3181, 0, 0, 0) := by decide +kernel
theorem s394_3179 {L : Nat} {xs : Nat → Int32} {d x : Nat} {M : qxM} {st : List Value} {a0 a1 a2 a3 a4 a6 a7 a8 : Option Value} {z : Int32} : Rs L xs (d) 394 3179 [a0, a1, a2, a3, a4, some (.int z), a6, a7, a8] st M x = Rs L xs (d) 394 3181 [a0, a1, a2, a3, a4, some (.int z), a6, a7, a8] (.int z :: st) M x := Rs_next c394_3179 rfl
theorem c394_3181 : qx_code 394 3181 = some (3181, .iconst 1, 3182, 0, 0, 0) := by decide +kernel
theorem s394_3181 {L : Nat} {xs : Nat → Int32} {d x : Nat} {M : qxM} {st : List Value} {ls : qxL} : Rs L xs (d) 394 3181 ls st M x = Rs L xs (d) 394 3182 ls (.int (nI 1) :: st) M x := Rs_next c394_3181 rfl
theorem c394_3182 : qx_code 394 3182 = some (3182, .iadd, 3183, 0, 0, 0) := by decide +kernel
theorem s394_3182 {L : Nat} {xs : Nat → Int32} {d x : Nat} {M : qxM} {st : List Value} {ls : qxL} {z y : Int32} : Rs L xs (d) 394 3182 ls (.int y :: .int z :: st) M x = Rs L xs (d) 394 3183 ls (.int (z + y) :: st) M x := Rs_next c394_3182 rfl
theorem c394_3183 : qx_code 394 3183 = some (3183, .iaload, 3184, 0, 0, 0) := by decide +kernel
theorem s394_3183s {L : Nat} {xs : Nat → Int32} {d x : Nat} {M : qxM} {st : List Value} {ls : qxL} {j : Int32} (hj : qx_ib j L = true) : Rs L xs (d) 394 3183 ls (.int j :: .ref 1 :: st) M x = Rs L xs (d) 394 3184 ls (.int (xs j.toNatClampNeg) :: st) M x := Rs_unless (qx_ib_not hj) c394_3183 rfl
theorem c394_3184 : qx_code 394 3184 = some (3184, .aload_n 0, 3185, 0, 0, 0) := by decide +kernel
theorem s394_3184 {L : Nat} {xs : Nat → Int32} {d x : Nat} {M : qxM} {st : List Value} {a1 a2 a3 a4 a5 a6 a7 a8 : Option Value} {z : Nat} : Rs L xs (d) 394 3184 [some (.ref z), a1, a2, a3, a4, a5, a6, a7, a8] st M x = Rs L xs (d) 394 3185 [some (.ref z), a1, a2, a3, a4, a5, a6, a7, a8] (.ref z :: st) M x := Rs_next c394_3184 rfl
theorem c394_3185 : qx_code 394 3185 = some (3185, .iload 5, 3187, 0, 0, 0) := by decide +kernel
theorem s394_3185 {L : Nat} {xs : Nat → Int32} {d x : Nat} {M : qxM} {st : List Value} {a0 a1 a2 a3 a4 a6 a7 a8 : Option Value} {z : Int32} : Rs L xs (d) 394 3185 [a0, a1, a2, a3, a4, some (.int z), a6, a7, a8] st M x = Rs L xs (d) 394 3187 [a0, a1, a2, a3, a4, some (.int z), a6, a7, a8] (.int z :: st) M x := Rs_next c394_3185 rfl
theorem c394_3187 : qx_code 394 3187 = some (3187, .iconst 2, 3188, 0, 0, 0) := by decide +kernel
theorem s394_3187 {L : Nat} {xs : Nat → Int32} {d x : Nat} {M : qxM} {st : List Value} {ls : qxL} : Rs L xs (d) 394 3187 ls st M x = Rs L xs (d) 394 3188 ls (.int (nI 2) :: st) M x := Rs_next c394_3187 rfl
theorem c394_3188 : qx_code 394 3188 = some (3188, .iadd, 3189, 0, 0, 0) := by decide +kernel
theorem s394_3188 {L : Nat} {xs : Nat → Int32} {d x : Nat} {M : qxM} {st : List Value} {ls : qxL} {z y : Int32} : Rs L xs (d) 394 3188 ls (.int y :: .int z :: st) M x = Rs L xs (d) 394 3189 ls (.int (z + y) :: st) M x := Rs_next c394_3188 rfl
theorem c394_3189 : qx_code 394 3189 = some (3189, .iaload, 3190, 0, 0, 0) := by decide +kernel
theorem s394_3189s {L : Nat} {xs : Nat → Int32} {d x : Nat} {M : qxM} {st : List Value} {ls : qxL} {j : Int32} (hj : qx_ib j L = true) : Rs L xs (d) 394 3189 ls (.int j :: .ref 1 :: st) M x = Rs L xs (d) 394 3190 ls (.int (xs j.toNatClampNeg) :: st) M x := Rs_unless (qx_ib_not hj) c394_3189 rfl
theorem c394_3190 : qx_code 394 3190 = some (3190, .aload_n 3, 3191, 0, 0, 0) := by decide +kernel
theorem s394_3190 {L : Nat} {xs : Nat → Int32} {d x : Nat} {M : qxM} {st : List Value} {a0 a1 a2 a4 a5 a6 a7 a8 : Option Value} {z : Nat} : Rs L xs (d) 394 3190 [a0, a1, a2, some (.ref z), a4, a5, a6, a7, a8] st M x = Rs L xs (d) 394 3191 [a0, a1, a2, some (.ref z), a4, a5, a6, a7, a8] (.ref z :: st) M x := Rs_next c394_3190 rfl
theorem c394_3191 : qx_code 394 3191 = some (3191, .invokestatic 384, 3194, 385, 4, 1459) := by decide +kernel
theorem s394_3191 {L : Nat} {xs : Nat → Int32} {d x : Nat} {M : qxM} {st : List Value} {ls : qxL} {z0 : Nat} {z1 : Int32} {z2 : Int32} {z3 : Nat} (hs : st.length ≤ 4) : Rs L xs (d + 1) 394 3191 ls (.ref z3 :: .int z2 :: .int z1 :: .ref z0 :: st) M x = (Rs L xs d 385 0 [some (.ref z0), some (.int z1), some (.int z2), some (.ref z3), none] [] M 0).bind (qx_kn L xs (d + 1) 394 3191 3194 385 ls st x) := by
  have h1 : qx_act L xs (qx_rt 394) (3191, .invokestatic 384, 3194, 385, 4, 1459) ls (.ref z3 :: .int z2 :: .int z1 :: .ref z0 :: st) M = if 4 ≤ (.ref z3 :: .int z2 :: .int z1 :: .ref z0 :: st).length ∧ st.length ≤ 4 then some (.inr (.inr (.inr (385, [.ref z0, .int z1, .int z2, .ref z3], st)))) else none := rfl
  rw [if_pos ⟨by simp [List.length_cons]; try omega, hs⟩] at h1
  exact Rs_call c394_3191 h1 rfl
theorem c394_3194 : qx_code 394 3194 = some (3194, .istore 6, 3196, 0, 0, 0) := by decide +kernel
theorem s394_3194i {L : Nat} {xs : Nat → Int32} {d x : Nat} {M : qxM} {st : List Value} {a0 a1 a2 a3 a4 a6 a7 a8 : Option Value} {z : Int32} {y : Int32} : Rs L xs (d) 394 3194 [a0, a1, a2, a3, a4, some (.int y), a6, a7, a8] (.int z :: st) M x = Rs L xs (d) 394 3196 [a0, a1, a2, a3, a4, some (.int y), some (.int z), a7, a8] st M x := Rs_next c394_3194 rfl
theorem c394_3196 : qx_code 394 3196 = some (3196, .aload_n 2, 3197, 0, 0, 0) := by decide +kernel
theorem s394_3196 {L : Nat} {xs : Nat → Int32} {d x : Nat} {M : qxM} {st : List Value} {a0 a1 a3 a4 a5 a6 a7 a8 : Option Value} {z : Nat} : Rs L xs (d) 394 3196 [a0, a1, some (.ref z), a3, a4, a5, a6, a7, a8] st M x = Rs L xs (d) 394 3197 [a0, a1, some (.ref z), a3, a4, a5, a6, a7, a8] (.ref z :: st) M x := Rs_next c394_3196 rfl
theorem c394_3197 : qx_code 394 3197 = some (3197, .aload_n 0, 3198, 0, 0, 0) := by decide +kernel
theorem s394_3197 {L : Nat} {xs : Nat → Int32} {d x : Nat} {M : qxM} {st : List Value} {a1 a2 a3 a4 a5 a6 a7 a8 : Option Value} {z : Nat} : Rs L xs (d) 394 3197 [some (.ref z), a1, a2, a3, a4, a5, a6, a7, a8] st M x = Rs L xs (d) 394 3198 [some (.ref z), a1, a2, a3, a4, a5, a6, a7, a8] (.ref z :: st) M x := Rs_next c394_3197 rfl
theorem c394_3198 : qx_code 394 3198 = some (3198, .iload 5, 3200, 0, 0, 0) := by decide +kernel
theorem s394_3198 {L : Nat} {xs : Nat → Int32} {d x : Nat} {M : qxM} {st : List Value} {a0 a1 a2 a3 a4 a6 a7 a8 : Option Value} {z : Int32} : Rs L xs (d) 394 3198 [a0, a1, a2, a3, a4, some (.int z), a6, a7, a8] st M x = Rs L xs (d) 394 3200 [a0, a1, a2, a3, a4, some (.int z), a6, a7, a8] (.int z :: st) M x := Rs_next c394_3198 rfl
theorem c394_3200 : qx_code 394 3200 = some (3200, .iconst 1, 3201, 0, 0, 0) := by decide +kernel
theorem s394_3200 {L : Nat} {xs : Nat → Int32} {d x : Nat} {M : qxM} {st : List Value} {ls : qxL} : Rs L xs (d) 394 3200 ls st M x = Rs L xs (d) 394 3201 ls (.int (nI 1) :: st) M x := Rs_next c394_3200 rfl
theorem c394_3201 : qx_code 394 3201 = some (3201, .iadd, 3202, 0, 0, 0) := by decide +kernel
theorem s394_3201 {L : Nat} {xs : Nat → Int32} {d x : Nat} {M : qxM} {st : List Value} {ls : qxL} {z y : Int32} : Rs L xs (d) 394 3201 ls (.int y :: .int z :: st) M x = Rs L xs (d) 394 3202 ls (.int (z + y) :: st) M x := Rs_next c394_3201 rfl
theorem c394_3202 : qx_code 394 3202 = some (3202, .iaload, 3203, 0, 0, 0) := by decide +kernel
theorem s394_3202s {L : Nat} {xs : Nat → Int32} {d x : Nat} {M : qxM} {st : List Value} {ls : qxL} {j : Int32} (hj : qx_ib j L = true) : Rs L xs (d) 394 3202 ls (.int j :: .ref 1 :: st) M x = Rs L xs (d) 394 3203 ls (.int (xs j.toNatClampNeg) :: st) M x := Rs_unless (qx_ib_not hj) c394_3202 rfl
theorem c394_3203 : qx_code 394 3203 = some (3203, .aload_n 0, 3204, 0, 0, 0) := by decide +kernel
theorem s394_3203 {L : Nat} {xs : Nat → Int32} {d x : Nat} {M : qxM} {st : List Value} {a1 a2 a3 a4 a5 a6 a7 a8 : Option Value} {z : Nat} : Rs L xs (d) 394 3203 [some (.ref z), a1, a2, a3, a4, a5, a6, a7, a8] st M x = Rs L xs (d) 394 3204 [some (.ref z), a1, a2, a3, a4, a5, a6, a7, a8] (.ref z :: st) M x := Rs_next c394_3203 rfl
theorem c394_3204 : qx_code 394 3204 = some (3204, .iload 5, 3206, 0, 0, 0) := by decide +kernel
theorem s394_3204 {L : Nat} {xs : Nat → Int32} {d x : Nat} {M : qxM} {st : List Value} {a0 a1 a2 a3 a4 a6 a7 a8 : Option Value} {z : Int32} : Rs L xs (d) 394 3204 [a0, a1, a2, a3, a4, some (.int z), a6, a7, a8] st M x = Rs L xs (d) 394 3206 [a0, a1, a2, a3, a4, some (.int z), a6, a7, a8] (.int z :: st) M x := Rs_next c394_3204 rfl
theorem c394_3206 : qx_code 394 3206 = some (3206, .iconst 2, 3207, 0, 0, 0) := by decide +kernel
theorem s394_3206 {L : Nat} {xs : Nat → Int32} {d x : Nat} {M : qxM} {st : List Value} {ls : qxL} : Rs L xs (d) 394 3206 ls st M x = Rs L xs (d) 394 3207 ls (.int (nI 2) :: st) M x := Rs_next c394_3206 rfl
theorem c394_3207 : qx_code 394 3207 = some (3207, .iadd, 3208, 0, 0, 0) := by decide +kernel
theorem s394_3207 {L : Nat} {xs : Nat → Int32} {d x : Nat} {M : qxM} {st : List Value} {ls : qxL} {z y : Int32} : Rs L xs (d) 394 3207 ls (.int y :: .int z :: st) M x = Rs L xs (d) 394 3208 ls (.int (z + y) :: st) M x := Rs_next c394_3207 rfl
theorem c394_3208 : qx_code 394 3208 = some (3208, .iaload, 3209, 0, 0, 0) := by decide +kernel
theorem s394_3208s {L : Nat} {xs : Nat → Int32} {d x : Nat} {M : qxM} {st : List Value} {ls : qxL} {j : Int32} (hj : qx_ib j L = true) : Rs L xs (d) 394 3208 ls (.int j :: .ref 1 :: st) M x = Rs L xs (d) 394 3209 ls (.int (xs j.toNatClampNeg) :: st) M x := Rs_unless (qx_ib_not hj) c394_3208 rfl
theorem c394_3209 : qx_code 394 3209 = some (3209, .invokevirtual 386, 3212, 324, 3, 2197) := by decide +kernel
theorem s394_3209 {L : Nat} {xs : Nat → Int32} {d x : Nat} {M : qxM} {st : List Value} {ls : qxL} {t : Nat} {z0 : Int32} {z1 : Int32} (hk : qx_kd t = 18) (hs : st.length ≤ 4) : Rs L xs (d + 1) 394 3209 ls (.int z1 :: .int z0 :: .ref t :: st) M x = (Rs L xs d 324 0 [some (.ref t), some (.int z0), some (.int z1), none] [] M 0).bind (qx_kn L xs (d + 1) 394 3209 3212 324 ls st x) := by
  have h1 : qx_act L xs (qx_rt 394) (3209, .invokevirtual 386, 3212, 324, 3, 2197) ls (.int z1 :: .int z0 :: .ref t :: st) M = if 3 ≤ (.int z1 :: .int z0 :: .ref t :: st).length ∧ st.length ≤ 4 then some (.inr (.inr (.inr (324, [.ref t, .int z0, .int z1], st)))) else none := rfl
  rw [if_pos ⟨by simp [List.length_cons]; try omega, hs⟩] at h1
  have h2 := qx_kd_obj (k := 8) (by decide) hk
  exact Rs_call c394_3209 h1 (by rw [show qx_args 324 [.ref t, .int z0, .int z1] = decide (qx_sh t = some (.inl 8)) from rfl]; exact decide_eq_true h2)
theorem c394_3212 : qx_code 394 3212 = some (3212, .istore 7, 3214, 0, 0, 0) := by decide +kernel
theorem s394_3212i {L : Nat} {xs : Nat → Int32} {d x : Nat} {M : qxM} {st : List Value} {a0 a1 a2 a3 a4 a5 a7 a8 : Option Value} {z : Int32} {y : Int32} : Rs L xs (d) 394 3212 [a0, a1, a2, a3, a4, a5, some (.int y), a7, a8] (.int z :: st) M x = Rs L xs (d) 394 3214 [a0, a1, a2, a3, a4, a5, some (.int y), some (.int z), a8] st M x := Rs_next c394_3212 rfl
theorem c394_3214 : qx_code 394 3214 = some (3214, .aload_n 2, 3215, 0, 0, 0) := by decide +kernel
theorem s394_3214 {L : Nat} {xs : Nat → Int32} {d x : Nat} {M : qxM} {st : List Value} {a0 a1 a3 a4 a5 a6 a7 a8 : Option Value} {z : Nat} : Rs L xs (d) 394 3214 [a0, a1, some (.ref z), a3, a4, a5, a6, a7, a8] st M x = Rs L xs (d) 394 3215 [a0, a1, some (.ref z), a3, a4, a5, a6, a7, a8] (.ref z :: st) M x := Rs_next c394_3214 rfl
theorem c394_3215 : qx_code 394 3215 = some (3215, .invokevirtual 218, 3218, 177, 1, 1613) := by decide +kernel
theorem s394_3215 {L : Nat} {xs : Nat → Int32} {d x : Nat} {M : qxM} {st : List Value} {ls : qxL} {t : Nat} (hk : qx_kd t = 18) (hs : st.length ≤ 4) : Rs L xs (d + 1) 394 3215 ls (.ref t :: st) M x = (Rs L xs d 177 0 [some (.ref t)] [] M 0).bind (qx_kn L xs (d + 1) 394 3215 3218 177 ls st x) := by
  have h1 : qx_act L xs (qx_rt 394) (3215, .invokevirtual 218, 3218, 177, 1, 1613) ls (.ref t :: st) M = if 1 ≤ (.ref t :: st).length ∧ st.length ≤ 4 then some (.inr (.inr (.inr (177, [.ref t], st)))) else none := rfl
  rw [if_pos ⟨by simp [List.length_cons]; try omega, hs⟩] at h1
  have h2 := qx_kd_obj (k := 8) (by decide) hk
  exact Rs_call c394_3215 h1 (by rw [show qx_args 177 [.ref t] = decide (qx_sh t = some (.inl 8)) from rfl]; exact decide_eq_true h2)
theorem c394_3218 : qx_code 394 3218 = some (3218, .iload 6, 3220, 0, 0, 0) := by decide +kernel
theorem s394_3218 {L : Nat} {xs : Nat → Int32} {d x : Nat} {M : qxM} {st : List Value} {a0 a1 a2 a3 a4 a5 a7 a8 : Option Value} {z : Int32} : Rs L xs (d) 394 3218 [a0, a1, a2, a3, a4, a5, some (.int z), a7, a8] st M x = Rs L xs (d) 394 3220 [a0, a1, a2, a3, a4, a5, some (.int z), a7, a8] (.int z :: st) M x := Rs_next c394_3218 rfl
theorem c394_3220 : qx_code 394 3220 = some (3220, .if_icmp .eq 5, 3223, 3225, 0, 0) := by decide +kernel
theorem s394_3220 {L : Nat} {xs : Nat → Int32} {d x : Nat} {M : qxM} {st : List Value} {ls : qxL} {z y : Int32} : Rs L xs (d) 394 3220 ls (.int y :: .int z :: st) M x = if z = y then Rs L xs (d) 394 3225 ls st M x else Rs L xs (d) 394 3223 ls st M x := Rs_ite c394_3220 rfl
theorem c394_3225 : qx_code 394 3225 = some (3225, .iload 6, 3227, 0, 0, 0) := by decide +kernel
theorem s394_3225 {L : Nat} {xs : Nat → Int32} {d x : Nat} {M : qxM} {st : List Value} {a0 a1 a2 a3 a4 a5 a7 a8 : Option Value} {z : Int32} : Rs L xs (d) 394 3225 [a0, a1, a2, a3, a4, a5, some (.int z), a7, a8] st M x = Rs L xs (d) 394 3227 [a0, a1, a2, a3, a4, a5, some (.int z), a7, a8] (.int z :: st) M x := Rs_next c394_3225 rfl
theorem c394_3227 : qx_code 394 3227 = some (3227, .ifCond .ne 15, 3230, 3242, 0, 0) := by decide +kernel
theorem s394_3227 {L : Nat} {xs : Nat → Int32} {d x : Nat} {M : qxM} {st : List Value} {ls : qxL} {z : Int32} : Rs L xs (d) 394 3227 ls (.int z :: st) M x = if z = 0 then Rs L xs (d) 394 3230 ls st M x else Rs L xs (d) 394 3242 ls st M x := Rs_ite c394_3227 rfl
theorem c394_3230 : qx_code 394 3230 = some (3230, .aload_n 3, 3231, 0, 0, 0) := by decide +kernel
theorem s394_3230 {L : Nat} {xs : Nat → Int32} {d x : Nat} {M : qxM} {st : List Value} {a0 a1 a2 a4 a5 a6 a7 a8 : Option Value} {z : Nat} : Rs L xs (d) 394 3230 [a0, a1, a2, some (.ref z), a4, a5, a6, a7, a8] st M x = Rs L xs (d) 394 3231 [a0, a1, a2, some (.ref z), a4, a5, a6, a7, a8] (.ref z :: st) M x := Rs_next c394_3230 rfl
theorem c394_3231 : qx_code 394 3231 = some (3231, .iconst 0, 3232, 0, 0, 0) := by decide +kernel
theorem s394_3231 {L : Nat} {xs : Nat → Int32} {d x : Nat} {M : qxM} {st : List Value} {ls : qxL} : Rs L xs (d) 394 3231 ls st M x = Rs L xs (d) 394 3232 ls (.int (nI 0) :: st) M x := Rs_next c394_3231 rfl
theorem c394_3232 : qx_code 394 3232 = some (3232, .laload, 3233, 0, 0, 0) := by decide +kernel
theorem s394_3232 {L : Nat} {xs : Nat → Int32} {d x : Nat} {M : qxM} {st : List Value} {ls : qxL} {t : Nat} {j : Int32} (hk : qx_kd t = 4) (hj : qx_ib j (qx_ln t) = true) : Rs L xs (d) 394 3232 ls (.int j :: .ref t :: st) M x = Rs L xs (d) 394 3233 ls (.long (M.2.1 j.toNatClampNeg) :: st) M x := by
  have h1 := qx_kd_row (k := 4) (by decide) hk
  exact Rs_unless (qx_ib_not hj) c394_3232 (by unfold qx_act; dsimp only; rw [h1]; rfl)
theorem c394_3233 : qx_code 394 3233 = some (3233, .iload 7, 3235, 0, 0, 0) := by decide +kernel
theorem s394_3233 {L : Nat} {xs : Nat → Int32} {d x : Nat} {M : qxM} {st : List Value} {a0 a1 a2 a3 a4 a5 a6 a8 : Option Value} {z : Int32} : Rs L xs (d) 394 3233 [a0, a1, a2, a3, a4, a5, a6, some (.int z), a8] st M x = Rs L xs (d) 394 3235 [a0, a1, a2, a3, a4, a5, a6, some (.int z), a8] (.int z :: st) M x := Rs_next c394_3233 rfl
theorem c394_3235 : qx_code 394 3235 = some (3235, .i2l, 3236, 0, 0, 0) := by decide +kernel
theorem s394_3235 {L : Nat} {xs : Nat → Int32} {d x : Nat} {M : qxM} {st : List Value} {ls : qxL} {z : Int32} : Rs L xs (d) 394 3235 ls (.int z :: st) M x = Rs L xs (d) 394 3236 ls (.long z.toInt64 :: st) M x := Rs_next c394_3235 rfl
theorem c394_3236 : qx_code 394 3236 = some (3236, .lcmp, 3237, 0, 0, 0) := by decide +kernel
theorem s394_3236 {L : Nat} {xs : Nat → Int32} {d x : Nat} {M : qxM} {st : List Value} {ls : qxL} {z y : Int64} : Rs L xs (d) 394 3236 ls (.long y :: .long z :: st) M x = Rs L xs (d) 394 3237 ls (.int (lg_cmp z y) :: st) M x := Rs_next c394_3236 rfl
theorem c394_3237 : qx_code 394 3237 = some (3237, .ifCond .eq 5, 3240, 3242, 0, 0) := by decide +kernel
theorem s394_3237 {L : Nat} {xs : Nat → Int32} {d x : Nat} {M : qxM} {st : List Value} {ls : qxL} {z : Int32} : Rs L xs (d) 394 3237 ls (.int z :: st) M x = if z = 0 then Rs L xs (d) 394 3242 ls st M x else Rs L xs (d) 394 3240 ls st M x := Rs_ite c394_3237 rfl
theorem c394_3242 : qx_code 394 3242 = some (3242, .goto 504, 3245, 3746, 0, 0) := by decide +kernel
theorem s394_3242 {L : Nat} {xs : Nat → Int32} {d x : Nat} {M : qxM} {st : List Value} {ls : qxL} : Rs L xs (d) 394 3242 ls st M x = Rs L xs (d) 394 3746 ls st M x := Rs_next c394_3242 rfl
theorem c394_3245 : qx_code 394 3245 = some (3245, .aload_n 1, 3246, 0, 0, 0) := by decide +kernel
theorem s394_3245 {L : Nat} {xs : Nat → Int32} {d x : Nat} {M : qxM} {st : List Value} {a0 a2 a3 a4 a5 a6 a7 a8 : Option Value} {z : Nat} : Rs L xs (d) 394 3245 [a0, some (.ref z), a2, a3, a4, a5, a6, a7, a8] st M x = Rs L xs (d) 394 3246 [a0, some (.ref z), a2, a3, a4, a5, a6, a7, a8] (.ref z :: st) M x := Rs_next c394_3245 rfl
theorem c394_3246 : qx_code 394 3246 = some (3246, .aload_n 0, 3247, 0, 0, 0) := by decide +kernel
theorem s394_3246 {L : Nat} {xs : Nat → Int32} {d x : Nat} {M : qxM} {st : List Value} {a1 a2 a3 a4 a5 a6 a7 a8 : Option Value} {z : Nat} : Rs L xs (d) 394 3246 [some (.ref z), a1, a2, a3, a4, a5, a6, a7, a8] st M x = Rs L xs (d) 394 3247 [some (.ref z), a1, a2, a3, a4, a5, a6, a7, a8] (.ref z :: st) M x := Rs_next c394_3246 rfl
theorem c394_3247 : qx_code 394 3247 = some (3247, .iload 5, 3249, 0, 0, 0) := by decide +kernel
theorem s394_3247 {L : Nat} {xs : Nat → Int32} {d x : Nat} {M : qxM} {st : List Value} {a0 a1 a2 a3 a4 a6 a7 a8 : Option Value} {z : Int32} : Rs L xs (d) 394 3247 [a0, a1, a2, a3, a4, some (.int z), a6, a7, a8] st M x = Rs L xs (d) 394 3249 [a0, a1, a2, a3, a4, some (.int z), a6, a7, a8] (.int z :: st) M x := Rs_next c394_3247 rfl
theorem c394_3249 : qx_code 394 3249 = some (3249, .iconst 1, 3250, 0, 0, 0) := by decide +kernel
theorem s394_3249 {L : Nat} {xs : Nat → Int32} {d x : Nat} {M : qxM} {st : List Value} {ls : qxL} : Rs L xs (d) 394 3249 ls st M x = Rs L xs (d) 394 3250 ls (.int (nI 1) :: st) M x := Rs_next c394_3249 rfl
theorem c394_3250 : qx_code 394 3250 = some (3250, .iadd, 3251, 0, 0, 0) := by decide +kernel
theorem s394_3250 {L : Nat} {xs : Nat → Int32} {d x : Nat} {M : qxM} {st : List Value} {ls : qxL} {z y : Int32} : Rs L xs (d) 394 3250 ls (.int y :: .int z :: st) M x = Rs L xs (d) 394 3251 ls (.int (z + y) :: st) M x := Rs_next c394_3250 rfl
theorem c394_3251 : qx_code 394 3251 = some (3251, .iaload, 3252, 0, 0, 0) := by decide +kernel
theorem s394_3251s {L : Nat} {xs : Nat → Int32} {d x : Nat} {M : qxM} {st : List Value} {ls : qxL} {j : Int32} (hj : qx_ib j L = true) : Rs L xs (d) 394 3251 ls (.int j :: .ref 1 :: st) M x = Rs L xs (d) 394 3252 ls (.int (xs j.toNatClampNeg) :: st) M x := Rs_unless (qx_ib_not hj) c394_3251 rfl
theorem c394_3252 : qx_code 394 3252 = some (3252, .aload_n 3, 3253, 0, 0, 0) := by decide +kernel
theorem s394_3252 {L : Nat} {xs : Nat → Int32} {d x : Nat} {M : qxM} {st : List Value} {a0 a1 a2 a4 a5 a6 a7 a8 : Option Value} {z : Nat} : Rs L xs (d) 394 3252 [a0, a1, a2, some (.ref z), a4, a5, a6, a7, a8] st M x = Rs L xs (d) 394 3253 [a0, a1, a2, some (.ref z), a4, a5, a6, a7, a8] (.ref z :: st) M x := Rs_next c394_3252 rfl
theorem c394_3253 : qx_code 394 3253 = some (3253, .invokestatic 387, 3256, 386, 3, 1468) := by decide +kernel
theorem s394_3253 {L : Nat} {xs : Nat → Int32} {d x : Nat} {M : qxM} {st : List Value} {ls : qxL} {z0 : Nat} {z1 : Int32} {z2 : Nat} (hs : st.length ≤ 4) : Rs L xs (d + 1) 394 3253 ls (.ref z2 :: .int z1 :: .ref z0 :: st) M x = (Rs L xs d 386 0 [some (.ref z0), some (.int z1), some (.ref z2), none] [] M 0).bind (qx_kn L xs (d + 1) 394 3253 3256 386 ls st x) := by
  have h1 : qx_act L xs (qx_rt 394) (3253, .invokestatic 387, 3256, 386, 3, 1468) ls (.ref z2 :: .int z1 :: .ref z0 :: st) M = if 3 ≤ (.ref z2 :: .int z1 :: .ref z0 :: st).length ∧ st.length ≤ 4 then some (.inr (.inr (.inr (386, [.ref z0, .int z1, .ref z2], st)))) else none := rfl
  rw [if_pos ⟨by simp [List.length_cons]; try omega, hs⟩] at h1
  exact Rs_call c394_3253 h1 rfl
theorem c394_3256 : qx_code 394 3256 = some (3256, .istore 6, 3258, 0, 0, 0) := by decide +kernel
theorem s394_3256i {L : Nat} {xs : Nat → Int32} {d x : Nat} {M : qxM} {st : List Value} {a0 a1 a2 a3 a4 a6 a7 a8 : Option Value} {z : Int32} {y : Int32} : Rs L xs (d) 394 3256 [a0, a1, a2, a3, a4, some (.int y), a6, a7, a8] (.int z :: st) M x = Rs L xs (d) 394 3258 [a0, a1, a2, a3, a4, some (.int y), some (.int z), a7, a8] st M x := Rs_next c394_3256 rfl
theorem c394_3258 : qx_code 394 3258 = some (3258, .aload_n 2, 3259, 0, 0, 0) := by decide +kernel
theorem s394_3258 {L : Nat} {xs : Nat → Int32} {d x : Nat} {M : qxM} {st : List Value} {a0 a1 a3 a4 a5 a6 a7 a8 : Option Value} {z : Nat} : Rs L xs (d) 394 3258 [a0, a1, some (.ref z), a3, a4, a5, a6, a7, a8] st M x = Rs L xs (d) 394 3259 [a0, a1, some (.ref z), a3, a4, a5, a6, a7, a8] (.ref z :: st) M x := Rs_next c394_3258 rfl
theorem c394_3259 : qx_code 394 3259 = some (3259, .aload_n 0, 3260, 0, 0, 0) := by decide +kernel
theorem s394_3259 {L : Nat} {xs : Nat → Int32} {d x : Nat} {M : qxM} {st : List Value} {a1 a2 a3 a4 a5 a6 a7 a8 : Option Value} {z : Nat} : Rs L xs (d) 394 3259 [some (.ref z), a1, a2, a3, a4, a5, a6, a7, a8] st M x = Rs L xs (d) 394 3260 [some (.ref z), a1, a2, a3, a4, a5, a6, a7, a8] (.ref z :: st) M x := Rs_next c394_3259 rfl
theorem c394_3260 : qx_code 394 3260 = some (3260, .iload 5, 3262, 0, 0, 0) := by decide +kernel
theorem s394_3260 {L : Nat} {xs : Nat → Int32} {d x : Nat} {M : qxM} {st : List Value} {a0 a1 a2 a3 a4 a6 a7 a8 : Option Value} {z : Int32} : Rs L xs (d) 394 3260 [a0, a1, a2, a3, a4, some (.int z), a6, a7, a8] st M x = Rs L xs (d) 394 3262 [a0, a1, a2, a3, a4, some (.int z), a6, a7, a8] (.int z :: st) M x := Rs_next c394_3260 rfl
theorem c394_3262 : qx_code 394 3262 = some (3262, .iconst 1, 3263, 0, 0, 0) := by decide +kernel
theorem s394_3262 {L : Nat} {xs : Nat → Int32} {d x : Nat} {M : qxM} {st : List Value} {ls : qxL} : Rs L xs (d) 394 3262 ls st M x = Rs L xs (d) 394 3263 ls (.int (nI 1) :: st) M x := Rs_next c394_3262 rfl
theorem c394_3263 : qx_code 394 3263 = some (3263, .iadd, 3264, 0, 0, 0) := by decide +kernel
theorem s394_3263 {L : Nat} {xs : Nat → Int32} {d x : Nat} {M : qxM} {st : List Value} {ls : qxL} {z y : Int32} : Rs L xs (d) 394 3263 ls (.int y :: .int z :: st) M x = Rs L xs (d) 394 3264 ls (.int (z + y) :: st) M x := Rs_next c394_3263 rfl
theorem c394_3264 : qx_code 394 3264 = some (3264, .iaload, 3265, 0, 0, 0) := by decide +kernel
theorem s394_3264s {L : Nat} {xs : Nat → Int32} {d x : Nat} {M : qxM} {st : List Value} {ls : qxL} {j : Int32} (hj : qx_ib j L = true) : Rs L xs (d) 394 3264 ls (.int j :: .ref 1 :: st) M x = Rs L xs (d) 394 3265 ls (.int (xs j.toNatClampNeg) :: st) M x := Rs_unless (qx_ib_not hj) c394_3264 rfl
theorem c394_3265 : qx_code 394 3265 = some (3265, .invokevirtual 389, 3268, 326, 2, 2209) := by decide +kernel
theorem s394_3265 {L : Nat} {xs : Nat → Int32} {d x : Nat} {M : qxM} {st : List Value} {ls : qxL} {t : Nat} {z0 : Int32} (hk : qx_kd t = 18) (hs : st.length ≤ 4) : Rs L xs (d + 1) 394 3265 ls (.int z0 :: .ref t :: st) M x = (Rs L xs d 326 0 [some (.ref t), some (.int z0), none, none] [] M 0).bind (qx_kn L xs (d + 1) 394 3265 3268 326 ls st x) := by
  have h1 : qx_act L xs (qx_rt 394) (3265, .invokevirtual 389, 3268, 326, 2, 2209) ls (.int z0 :: .ref t :: st) M = if 2 ≤ (.int z0 :: .ref t :: st).length ∧ st.length ≤ 4 then some (.inr (.inr (.inr (326, [.ref t, .int z0], st)))) else none := rfl
  rw [if_pos ⟨by simp [List.length_cons]; try omega, hs⟩] at h1
  have h2 := qx_kd_obj (k := 8) (by decide) hk
  exact Rs_call c394_3265 h1 (by rw [show qx_args 326 [.ref t, .int z0] = decide (qx_sh t = some (.inl 8)) from rfl]; exact decide_eq_true h2)
theorem c394_3268 : qx_code 394 3268 = some (3268, .istore 7, 3270, 0, 0, 0) := by decide +kernel
theorem s394_3268i {L : Nat} {xs : Nat → Int32} {d x : Nat} {M : qxM} {st : List Value} {a0 a1 a2 a3 a4 a5 a7 a8 : Option Value} {z : Int32} {y : Int32} : Rs L xs (d) 394 3268 [a0, a1, a2, a3, a4, a5, some (.int y), a7, a8] (.int z :: st) M x = Rs L xs (d) 394 3270 [a0, a1, a2, a3, a4, a5, some (.int y), some (.int z), a8] st M x := Rs_next c394_3268 rfl
theorem c394_3270 : qx_code 394 3270 = some (3270, .aload_n 2, 3271, 0, 0, 0) := by decide +kernel
theorem s394_3270 {L : Nat} {xs : Nat → Int32} {d x : Nat} {M : qxM} {st : List Value} {a0 a1 a3 a4 a5 a6 a7 a8 : Option Value} {z : Nat} : Rs L xs (d) 394 3270 [a0, a1, some (.ref z), a3, a4, a5, a6, a7, a8] st M x = Rs L xs (d) 394 3271 [a0, a1, some (.ref z), a3, a4, a5, a6, a7, a8] (.ref z :: st) M x := Rs_next c394_3270 rfl
theorem c394_3271 : qx_code 394 3271 = some (3271, .invokevirtual 218, 3274, 177, 1, 1613) := by decide +kernel
theorem s394_3271 {L : Nat} {xs : Nat → Int32} {d x : Nat} {M : qxM} {st : List Value} {ls : qxL} {t : Nat} (hk : qx_kd t = 18) (hs : st.length ≤ 4) : Rs L xs (d + 1) 394 3271 ls (.ref t :: st) M x = (Rs L xs d 177 0 [some (.ref t)] [] M 0).bind (qx_kn L xs (d + 1) 394 3271 3274 177 ls st x) := by
  have h1 : qx_act L xs (qx_rt 394) (3271, .invokevirtual 218, 3274, 177, 1, 1613) ls (.ref t :: st) M = if 1 ≤ (.ref t :: st).length ∧ st.length ≤ 4 then some (.inr (.inr (.inr (177, [.ref t], st)))) else none := rfl
  rw [if_pos ⟨by simp [List.length_cons]; try omega, hs⟩] at h1
  have h2 := qx_kd_obj (k := 8) (by decide) hk
  exact Rs_call c394_3271 h1 (by rw [show qx_args 177 [.ref t] = decide (qx_sh t = some (.inl 8)) from rfl]; exact decide_eq_true h2)
theorem c394_3274 : qx_code 394 3274 = some (3274, .iload 6, 3276, 0, 0, 0) := by decide +kernel
theorem s394_3274 {L : Nat} {xs : Nat → Int32} {d x : Nat} {M : qxM} {st : List Value} {a0 a1 a2 a3 a4 a5 a7 a8 : Option Value} {z : Int32} : Rs L xs (d) 394 3274 [a0, a1, a2, a3, a4, a5, some (.int z), a7, a8] st M x = Rs L xs (d) 394 3276 [a0, a1, a2, a3, a4, a5, some (.int z), a7, a8] (.int z :: st) M x := Rs_next c394_3274 rfl
theorem c394_3276 : qx_code 394 3276 = some (3276, .if_icmp .eq 5, 3279, 3281, 0, 0) := by decide +kernel
theorem s394_3276 {L : Nat} {xs : Nat → Int32} {d x : Nat} {M : qxM} {st : List Value} {ls : qxL} {z y : Int32} : Rs L xs (d) 394 3276 ls (.int y :: .int z :: st) M x = if z = y then Rs L xs (d) 394 3281 ls st M x else Rs L xs (d) 394 3279 ls st M x := Rs_ite c394_3276 rfl
theorem c394_3281 : qx_code 394 3281 = some (3281, .iload 6, 3283, 0, 0, 0) := by decide +kernel
theorem s394_3281 {L : Nat} {xs : Nat → Int32} {d x : Nat} {M : qxM} {st : List Value} {a0 a1 a2 a3 a4 a5 a7 a8 : Option Value} {z : Int32} : Rs L xs (d) 394 3281 [a0, a1, a2, a3, a4, a5, some (.int z), a7, a8] st M x = Rs L xs (d) 394 3283 [a0, a1, a2, a3, a4, a5, some (.int z), a7, a8] (.int z :: st) M x := Rs_next c394_3281 rfl
theorem c394_3283 : qx_code 394 3283 = some (3283, .ifCond .ne 15, 3286, 3298, 0, 0) := by decide +kernel
theorem s394_3283 {L : Nat} {xs : Nat → Int32} {d x : Nat} {M : qxM} {st : List Value} {ls : qxL} {z : Int32} : Rs L xs (d) 394 3283 ls (.int z :: st) M x = if z = 0 then Rs L xs (d) 394 3286 ls st M x else Rs L xs (d) 394 3298 ls st M x := Rs_ite c394_3283 rfl
theorem c394_3286 : qx_code 394 3286 = some (3286, .aload_n 3, 3287, 0, 0, 0) := by decide +kernel
theorem s394_3286 {L : Nat} {xs : Nat → Int32} {d x : Nat} {M : qxM} {st : List Value} {a0 a1 a2 a4 a5 a6 a7 a8 : Option Value} {z : Nat} : Rs L xs (d) 394 3286 [a0, a1, a2, some (.ref z), a4, a5, a6, a7, a8] st M x = Rs L xs (d) 394 3287 [a0, a1, a2, some (.ref z), a4, a5, a6, a7, a8] (.ref z :: st) M x := Rs_next c394_3286 rfl
theorem c394_3287 : qx_code 394 3287 = some (3287, .iconst 0, 3288, 0, 0, 0) := by decide +kernel
theorem s394_3287 {L : Nat} {xs : Nat → Int32} {d x : Nat} {M : qxM} {st : List Value} {ls : qxL} : Rs L xs (d) 394 3287 ls st M x = Rs L xs (d) 394 3288 ls (.int (nI 0) :: st) M x := Rs_next c394_3287 rfl
theorem c394_3288 : qx_code 394 3288 = some (3288, .laload, 3289, 0, 0, 0) := by decide +kernel
theorem s394_3288 {L : Nat} {xs : Nat → Int32} {d x : Nat} {M : qxM} {st : List Value} {ls : qxL} {t : Nat} {j : Int32} (hk : qx_kd t = 4) (hj : qx_ib j (qx_ln t) = true) : Rs L xs (d) 394 3288 ls (.int j :: .ref t :: st) M x = Rs L xs (d) 394 3289 ls (.long (M.2.1 j.toNatClampNeg) :: st) M x := by
  have h1 := qx_kd_row (k := 4) (by decide) hk
  exact Rs_unless (qx_ib_not hj) c394_3288 (by unfold qx_act; dsimp only; rw [h1]; rfl)
theorem c394_3289 : qx_code 394 3289 = some (3289, .iload 7, 3291, 0, 0, 0) := by decide +kernel
theorem s394_3289 {L : Nat} {xs : Nat → Int32} {d x : Nat} {M : qxM} {st : List Value} {a0 a1 a2 a3 a4 a5 a6 a8 : Option Value} {z : Int32} : Rs L xs (d) 394 3289 [a0, a1, a2, a3, a4, a5, a6, some (.int z), a8] st M x = Rs L xs (d) 394 3291 [a0, a1, a2, a3, a4, a5, a6, some (.int z), a8] (.int z :: st) M x := Rs_next c394_3289 rfl
theorem c394_3291 : qx_code 394 3291 = some (3291, .i2l, 3292, 0, 0, 0) := by decide +kernel
theorem s394_3291 {L : Nat} {xs : Nat → Int32} {d x : Nat} {M : qxM} {st : List Value} {ls : qxL} {z : Int32} : Rs L xs (d) 394 3291 ls (.int z :: st) M x = Rs L xs (d) 394 3292 ls (.long z.toInt64 :: st) M x := Rs_next c394_3291 rfl
theorem c394_3292 : qx_code 394 3292 = some (3292, .lcmp, 3293, 0, 0, 0) := by decide +kernel
theorem s394_3292 {L : Nat} {xs : Nat → Int32} {d x : Nat} {M : qxM} {st : List Value} {ls : qxL} {z y : Int64} : Rs L xs (d) 394 3292 ls (.long y :: .long z :: st) M x = Rs L xs (d) 394 3293 ls (.int (lg_cmp z y) :: st) M x := Rs_next c394_3292 rfl
theorem c394_3293 : qx_code 394 3293 = some (3293, .ifCond .eq 5, 3296, 3298, 0, 0) := by decide +kernel
theorem s394_3293 {L : Nat} {xs : Nat → Int32} {d x : Nat} {M : qxM} {st : List Value} {ls : qxL} {z : Int32} : Rs L xs (d) 394 3293 ls (.int z :: st) M x = if z = 0 then Rs L xs (d) 394 3298 ls st M x else Rs L xs (d) 394 3296 ls st M x := Rs_ite c394_3293 rfl
theorem c394_3298 : qx_code 394 3298 = some (3298, .goto 448, 3301, 3746, 0, 0) := by decide +kernel
theorem s394_3298 {L : Nat} {xs : Nat → Int32} {d x : Nat} {M : qxM} {st : List Value} {ls : qxL} : Rs L xs (d) 394 3298 ls st M x = Rs L xs (d) 394 3746 ls st M x := Rs_next c394_3298 rfl
theorem c394_3301 : qx_code 394 3301 = some (3301, .aload_n 1, 3302, 0, 0, 0) := by decide +kernel
theorem s394_3301 {L : Nat} {xs : Nat → Int32} {d x : Nat} {M : qxM} {st : List Value} {a0 a2 a3 a4 a5 a6 a7 a8 : Option Value} {z : Nat} : Rs L xs (d) 394 3301 [a0, some (.ref z), a2, a3, a4, a5, a6, a7, a8] st M x = Rs L xs (d) 394 3302 [a0, some (.ref z), a2, a3, a4, a5, a6, a7, a8] (.ref z :: st) M x := Rs_next c394_3301 rfl
theorem c394_3302 : qx_code 394 3302 = some (3302, .aload_n 0, 3303, 0, 0, 0) := by decide +kernel
theorem s394_3302 {L : Nat} {xs : Nat → Int32} {d x : Nat} {M : qxM} {st : List Value} {a1 a2 a3 a4 a5 a6 a7 a8 : Option Value} {z : Nat} : Rs L xs (d) 394 3302 [some (.ref z), a1, a2, a3, a4, a5, a6, a7, a8] st M x = Rs L xs (d) 394 3303 [some (.ref z), a1, a2, a3, a4, a5, a6, a7, a8] (.ref z :: st) M x := Rs_next c394_3302 rfl
theorem c394_3303 : qx_code 394 3303 = some (3303, .iload 5, 3305, 0, 0, 0) := by decide +kernel
theorem s394_3303 {L : Nat} {xs : Nat → Int32} {d x : Nat} {M : qxM} {st : List Value} {a0 a1 a2 a3 a4 a6 a7 a8 : Option Value} {z : Int32} : Rs L xs (d) 394 3303 [a0, a1, a2, a3, a4, some (.int z), a6, a7, a8] st M x = Rs L xs (d) 394 3305 [a0, a1, a2, a3, a4, some (.int z), a6, a7, a8] (.int z :: st) M x := Rs_next c394_3303 rfl
theorem c394_3305 : qx_code 394 3305 = some (3305, .iconst 1, 3306, 0, 0, 0) := by decide +kernel
theorem s394_3305 {L : Nat} {xs : Nat → Int32} {d x : Nat} {M : qxM} {st : List Value} {ls : qxL} : Rs L xs (d) 394 3305 ls st M x = Rs L xs (d) 394 3306 ls (.int (nI 1) :: st) M x := Rs_next c394_3305 rfl
theorem c394_3306 : qx_code 394 3306 = some (3306, .iadd, 3307, 0, 0, 0) := by decide +kernel
theorem s394_3306 {L : Nat} {xs : Nat → Int32} {d x : Nat} {M : qxM} {st : List Value} {ls : qxL} {z y : Int32} : Rs L xs (d) 394 3306 ls (.int y :: .int z :: st) M x = Rs L xs (d) 394 3307 ls (.int (z + y) :: st) M x := Rs_next c394_3306 rfl
theorem c394_3307 : qx_code 394 3307 = some (3307, .iaload, 3308, 0, 0, 0) := by decide +kernel
theorem s394_3307s {L : Nat} {xs : Nat → Int32} {d x : Nat} {M : qxM} {st : List Value} {ls : qxL} {j : Int32} (hj : qx_ib j L = true) : Rs L xs (d) 394 3307 ls (.int j :: .ref 1 :: st) M x = Rs L xs (d) 394 3308 ls (.int (xs j.toNatClampNeg) :: st) M x := Rs_unless (qx_ib_not hj) c394_3307 rfl
theorem c394_3308 : qx_code 394 3308 = some (3308, .aload_n 3, 3309, 0, 0, 0) := by decide +kernel
theorem s394_3308 {L : Nat} {xs : Nat → Int32} {d x : Nat} {M : qxM} {st : List Value} {a0 a1 a2 a4 a5 a6 a7 a8 : Option Value} {z : Nat} : Rs L xs (d) 394 3308 [a0, a1, a2, some (.ref z), a4, a5, a6, a7, a8] st M x = Rs L xs (d) 394 3309 [a0, a1, a2, some (.ref z), a4, a5, a6, a7, a8] (.ref z :: st) M x := Rs_next c394_3308 rfl
theorem c394_3309 : qx_code 394 3309 = some (3309, .invokestatic 390, 3312, 387, 3, 1477) := by decide +kernel
theorem s394_3309 {L : Nat} {xs : Nat → Int32} {d x : Nat} {M : qxM} {st : List Value} {ls : qxL} {z0 : Nat} {z1 : Int32} {z2 : Nat} (hs : st.length ≤ 4) : Rs L xs (d + 1) 394 3309 ls (.ref z2 :: .int z1 :: .ref z0 :: st) M x = (Rs L xs d 387 0 [some (.ref z0), some (.int z1), some (.ref z2), none] [] M 0).bind (qx_kn L xs (d + 1) 394 3309 3312 387 ls st x) := by
  have h1 : qx_act L xs (qx_rt 394) (3309, .invokestatic 390, 3312, 387, 3, 1477) ls (.ref z2 :: .int z1 :: .ref z0 :: st) M = if 3 ≤ (.ref z2 :: .int z1 :: .ref z0 :: st).length ∧ st.length ≤ 4 then some (.inr (.inr (.inr (387, [.ref z0, .int z1, .ref z2], st)))) else none := rfl
  rw [if_pos ⟨by simp [List.length_cons]; try omega, hs⟩] at h1
  exact Rs_call c394_3309 h1 rfl
theorem c394_3312 : qx_code 394 3312 = some (3312, .istore 6, 3314, 0, 0, 0) := by decide +kernel
theorem s394_3312i {L : Nat} {xs : Nat → Int32} {d x : Nat} {M : qxM} {st : List Value} {a0 a1 a2 a3 a4 a6 a7 a8 : Option Value} {z : Int32} {y : Int32} : Rs L xs (d) 394 3312 [a0, a1, a2, a3, a4, some (.int y), a6, a7, a8] (.int z :: st) M x = Rs L xs (d) 394 3314 [a0, a1, a2, a3, a4, some (.int y), some (.int z), a7, a8] st M x := Rs_next c394_3312 rfl
theorem c394_3314 : qx_code 394 3314 = some (3314, .aload_n 2, 3315, 0, 0, 0) := by decide +kernel
theorem s394_3314 {L : Nat} {xs : Nat → Int32} {d x : Nat} {M : qxM} {st : List Value} {a0 a1 a3 a4 a5 a6 a7 a8 : Option Value} {z : Nat} : Rs L xs (d) 394 3314 [a0, a1, some (.ref z), a3, a4, a5, a6, a7, a8] st M x = Rs L xs (d) 394 3315 [a0, a1, some (.ref z), a3, a4, a5, a6, a7, a8] (.ref z :: st) M x := Rs_next c394_3314 rfl
theorem c394_3315 : qx_code 394 3315 = some (3315, .aload_n 0, 3316, 0, 0, 0) := by decide +kernel
theorem s394_3315 {L : Nat} {xs : Nat → Int32} {d x : Nat} {M : qxM} {st : List Value} {a1 a2 a3 a4 a5 a6 a7 a8 : Option Value} {z : Nat} : Rs L xs (d) 394 3315 [some (.ref z), a1, a2, a3, a4, a5, a6, a7, a8] st M x = Rs L xs (d) 394 3316 [some (.ref z), a1, a2, a3, a4, a5, a6, a7, a8] (.ref z :: st) M x := Rs_next c394_3315 rfl
theorem c394_3316 : qx_code 394 3316 = some (3316, .iload 5, 3318, 0, 0, 0) := by decide +kernel
theorem s394_3316 {L : Nat} {xs : Nat → Int32} {d x : Nat} {M : qxM} {st : List Value} {a0 a1 a2 a3 a4 a6 a7 a8 : Option Value} {z : Int32} : Rs L xs (d) 394 3316 [a0, a1, a2, a3, a4, some (.int z), a6, a7, a8] st M x = Rs L xs (d) 394 3318 [a0, a1, a2, a3, a4, some (.int z), a6, a7, a8] (.int z :: st) M x := Rs_next c394_3316 rfl
theorem c394_3318 : qx_code 394 3318 = some (3318, .iconst 1, 3319, 0, 0, 0) := by decide +kernel
theorem s394_3318 {L : Nat} {xs : Nat → Int32} {d x : Nat} {M : qxM} {st : List Value} {ls : qxL} : Rs L xs (d) 394 3318 ls st M x = Rs L xs (d) 394 3319 ls (.int (nI 1) :: st) M x := Rs_next c394_3318 rfl
theorem c394_3319 : qx_code 394 3319 = some (3319, .iadd, 3320, 0, 0, 0) := by decide +kernel
theorem s394_3319 {L : Nat} {xs : Nat → Int32} {d x : Nat} {M : qxM} {st : List Value} {ls : qxL} {z y : Int32} : Rs L xs (d) 394 3319 ls (.int y :: .int z :: st) M x = Rs L xs (d) 394 3320 ls (.int (z + y) :: st) M x := Rs_next c394_3319 rfl
theorem c394_3320 : qx_code 394 3320 = some (3320, .iaload, 3321, 0, 0, 0) := by decide +kernel
theorem s394_3320s {L : Nat} {xs : Nat → Int32} {d x : Nat} {M : qxM} {st : List Value} {ls : qxL} {j : Int32} (hj : qx_ib j L = true) : Rs L xs (d) 394 3320 ls (.int j :: .ref 1 :: st) M x = Rs L xs (d) 394 3321 ls (.int (xs j.toNatClampNeg) :: st) M x := Rs_unless (qx_ib_not hj) c394_3320 rfl
theorem c394_3321 : qx_code 394 3321 = some (3321, .invokevirtual 392, 3324, 325, 2, 2205) := by decide +kernel
theorem s394_3321 {L : Nat} {xs : Nat → Int32} {d x : Nat} {M : qxM} {st : List Value} {ls : qxL} {t : Nat} {z0 : Int32} (hk : qx_kd t = 18) (hs : st.length ≤ 4) : Rs L xs (d + 1) 394 3321 ls (.int z0 :: .ref t :: st) M x = (Rs L xs d 325 0 [some (.ref t), some (.int z0), none, none, none] [] M 0).bind (qx_kn L xs (d + 1) 394 3321 3324 325 ls st x) := by
  have h1 : qx_act L xs (qx_rt 394) (3321, .invokevirtual 392, 3324, 325, 2, 2205) ls (.int z0 :: .ref t :: st) M = if 2 ≤ (.int z0 :: .ref t :: st).length ∧ st.length ≤ 4 then some (.inr (.inr (.inr (325, [.ref t, .int z0], st)))) else none := rfl
  rw [if_pos ⟨by simp [List.length_cons]; try omega, hs⟩] at h1
  have h2 := qx_kd_obj (k := 8) (by decide) hk
  exact Rs_call c394_3321 h1 (by rw [show qx_args 325 [.ref t, .int z0] = decide (qx_sh t = some (.inl 8)) from rfl]; exact decide_eq_true h2)
theorem c394_3324 : qx_code 394 3324 = some (3324, .istore 7, 3326, 0, 0, 0) := by decide +kernel
theorem s394_3324i {L : Nat} {xs : Nat → Int32} {d x : Nat} {M : qxM} {st : List Value} {a0 a1 a2 a3 a4 a5 a7 a8 : Option Value} {z : Int32} {y : Int32} : Rs L xs (d) 394 3324 [a0, a1, a2, a3, a4, a5, some (.int y), a7, a8] (.int z :: st) M x = Rs L xs (d) 394 3326 [a0, a1, a2, a3, a4, a5, some (.int y), some (.int z), a8] st M x := Rs_next c394_3324 rfl
theorem c394_3326 : qx_code 394 3326 = some (3326, .aload_n 2, 3327, 0, 0, 0) := by decide +kernel
theorem s394_3326 {L : Nat} {xs : Nat → Int32} {d x : Nat} {M : qxM} {st : List Value} {a0 a1 a3 a4 a5 a6 a7 a8 : Option Value} {z : Nat} : Rs L xs (d) 394 3326 [a0, a1, some (.ref z), a3, a4, a5, a6, a7, a8] st M x = Rs L xs (d) 394 3327 [a0, a1, some (.ref z), a3, a4, a5, a6, a7, a8] (.ref z :: st) M x := Rs_next c394_3326 rfl
theorem c394_3327 : qx_code 394 3327 = some (3327, .invokevirtual 218, 3330, 177, 1, 1613) := by decide +kernel
theorem s394_3327 {L : Nat} {xs : Nat → Int32} {d x : Nat} {M : qxM} {st : List Value} {ls : qxL} {t : Nat} (hk : qx_kd t = 18) (hs : st.length ≤ 4) : Rs L xs (d + 1) 394 3327 ls (.ref t :: st) M x = (Rs L xs d 177 0 [some (.ref t)] [] M 0).bind (qx_kn L xs (d + 1) 394 3327 3330 177 ls st x) := by
  have h1 : qx_act L xs (qx_rt 394) (3327, .invokevirtual 218, 3330, 177, 1, 1613) ls (.ref t :: st) M = if 1 ≤ (.ref t :: st).length ∧ st.length ≤ 4 then some (.inr (.inr (.inr (177, [.ref t], st)))) else none := rfl
  rw [if_pos ⟨by simp [List.length_cons]; try omega, hs⟩] at h1
  have h2 := qx_kd_obj (k := 8) (by decide) hk
  exact Rs_call c394_3327 h1 (by rw [show qx_args 177 [.ref t] = decide (qx_sh t = some (.inl 8)) from rfl]; exact decide_eq_true h2)
theorem c394_3330 : qx_code 394 3330 = some (3330, .iload 6, 3332, 0, 0, 0) := by decide +kernel
theorem s394_3330 {L : Nat} {xs : Nat → Int32} {d x : Nat} {M : qxM} {st : List Value} {a0 a1 a2 a3 a4 a5 a7 a8 : Option Value} {z : Int32} : Rs L xs (d) 394 3330 [a0, a1, a2, a3, a4, a5, some (.int z), a7, a8] st M x = Rs L xs (d) 394 3332 [a0, a1, a2, a3, a4, a5, some (.int z), a7, a8] (.int z :: st) M x := Rs_next c394_3330 rfl
theorem c394_3332 : qx_code 394 3332 = some (3332, .if_icmp .eq 5, 3335, 3337, 0, 0) := by decide +kernel
theorem s394_3332 {L : Nat} {xs : Nat → Int32} {d x : Nat} {M : qxM} {st : List Value} {ls : qxL} {z y : Int32} : Rs L xs (d) 394 3332 ls (.int y :: .int z :: st) M x = if z = y then Rs L xs (d) 394 3337 ls st M x else Rs L xs (d) 394 3335 ls st M x := Rs_ite c394_3332 rfl
theorem c394_3337 : qx_code 394 3337 = some (3337, .iload 6, 3339, 0, 0, 0) := by decide +kernel
theorem s394_3337 {L : Nat} {xs : Nat → Int32} {d x : Nat} {M : qxM} {st : List Value} {a0 a1 a2 a3 a4 a5 a7 a8 : Option Value} {z : Int32} : Rs L xs (d) 394 3337 [a0, a1, a2, a3, a4, a5, some (.int z), a7, a8] st M x = Rs L xs (d) 394 3339 [a0, a1, a2, a3, a4, a5, some (.int z), a7, a8] (.int z :: st) M x := Rs_next c394_3337 rfl
theorem c394_3339 : qx_code 394 3339 = some (3339, .ifCond .ne 15, 3342, 3354, 0, 0) := by decide +kernel
theorem s394_3339 {L : Nat} {xs : Nat → Int32} {d x : Nat} {M : qxM} {st : List Value} {ls : qxL} {z : Int32} : Rs L xs (d) 394 3339 ls (.int z :: st) M x = if z = 0 then Rs L xs (d) 394 3342 ls st M x else Rs L xs (d) 394 3354 ls st M x := Rs_ite c394_3339 rfl
theorem c394_3342 : qx_code 394 3342 = some (3342, .aload_n 3, 3343, 0, 0, 0) := by decide +kernel
theorem s394_3342 {L : Nat} {xs : Nat → Int32} {d x : Nat} {M : qxM} {st : List Value} {a0 a1 a2 a4 a5 a6 a7 a8 : Option Value} {z : Nat} : Rs L xs (d) 394 3342 [a0, a1, a2, some (.ref z), a4, a5, a6, a7, a8] st M x = Rs L xs (d) 394 3343 [a0, a1, a2, some (.ref z), a4, a5, a6, a7, a8] (.ref z :: st) M x := Rs_next c394_3342 rfl
theorem c394_3343 : qx_code 394 3343 = some (3343, .iconst 0, 3344, 0, 0, 0) := by decide +kernel
theorem s394_3343 {L : Nat} {xs : Nat → Int32} {d x : Nat} {M : qxM} {st : List Value} {ls : qxL} : Rs L xs (d) 394 3343 ls st M x = Rs L xs (d) 394 3344 ls (.int (nI 0) :: st) M x := Rs_next c394_3343 rfl
theorem c394_3344 : qx_code 394 3344 = some (3344, .laload, 3345, 0, 0, 0) := by decide +kernel
theorem s394_3344 {L : Nat} {xs : Nat → Int32} {d x : Nat} {M : qxM} {st : List Value} {ls : qxL} {t : Nat} {j : Int32} (hk : qx_kd t = 4) (hj : qx_ib j (qx_ln t) = true) : Rs L xs (d) 394 3344 ls (.int j :: .ref t :: st) M x = Rs L xs (d) 394 3345 ls (.long (M.2.1 j.toNatClampNeg) :: st) M x := by
  have h1 := qx_kd_row (k := 4) (by decide) hk
  exact Rs_unless (qx_ib_not hj) c394_3344 (by unfold qx_act; dsimp only; rw [h1]; rfl)
theorem c394_3345 : qx_code 394 3345 = some (3345, .iload 7, 3347, 0, 0, 0) := by decide +kernel
theorem s394_3345 {L : Nat} {xs : Nat → Int32} {d x : Nat} {M : qxM} {st : List Value} {a0 a1 a2 a3 a4 a5 a6 a8 : Option Value} {z : Int32} : Rs L xs (d) 394 3345 [a0, a1, a2, a3, a4, a5, a6, some (.int z), a8] st M x = Rs L xs (d) 394 3347 [a0, a1, a2, a3, a4, a5, a6, some (.int z), a8] (.int z :: st) M x := Rs_next c394_3345 rfl
theorem c394_3347 : qx_code 394 3347 = some (3347, .i2l, 3348, 0, 0, 0) := by decide +kernel
theorem s394_3347 {L : Nat} {xs : Nat → Int32} {d x : Nat} {M : qxM} {st : List Value} {ls : qxL} {z : Int32} : Rs L xs (d) 394 3347 ls (.int z :: st) M x = Rs L xs (d) 394 3348 ls (.long z.toInt64 :: st) M x := Rs_next c394_3347 rfl
theorem c394_3348 : qx_code 394 3348 = some (3348, .lcmp, 3349, 0, 0, 0) := by decide +kernel
theorem s394_3348 {L : Nat} {xs : Nat → Int32} {d x : Nat} {M : qxM} {st : List Value} {ls : qxL} {z y : Int64} : Rs L xs (d) 394 3348 ls (.long y :: .long z :: st) M x = Rs L xs (d) 394 3349 ls (.int (lg_cmp z y) :: st) M x := Rs_next c394_3348 rfl
theorem c394_3349 : qx_code 394 3349 = some (3349, .ifCond .eq 5, 3352, 3354, 0, 0) := by decide +kernel
theorem s394_3349 {L : Nat} {xs : Nat → Int32} {d x : Nat} {M : qxM} {st : List Value} {ls : qxL} {z : Int32} : Rs L xs (d) 394 3349 ls (.int z :: st) M x = if z = 0 then Rs L xs (d) 394 3354 ls st M x else Rs L xs (d) 394 3352 ls st M x := Rs_ite c394_3349 rfl
theorem c394_3354 : qx_code 394 3354 = some (3354, .goto 392, 3357, 3746, 0, 0) := by decide +kernel
theorem s394_3354 {L : Nat} {xs : Nat → Int32} {d x : Nat} {M : qxM} {st : List Value} {ls : qxL} : Rs L xs (d) 394 3354 ls st M x = Rs L xs (d) 394 3746 ls st M x := Rs_next c394_3354 rfl
theorem c394_3357 : qx_code 394 3357 = some (3357, .aload_n 1, 3358, 0, 0, 0) := by decide +kernel
theorem s394_3357 {L : Nat} {xs : Nat → Int32} {d x : Nat} {M : qxM} {st : List Value} {a0 a2 a3 a4 a5 a6 a7 a8 : Option Value} {z : Nat} : Rs L xs (d) 394 3357 [a0, some (.ref z), a2, a3, a4, a5, a6, a7, a8] st M x = Rs L xs (d) 394 3358 [a0, some (.ref z), a2, a3, a4, a5, a6, a7, a8] (.ref z :: st) M x := Rs_next c394_3357 rfl
theorem c394_3358 : qx_code 394 3358 = some (3358, .aload_n 0, 3359, 0, 0, 0) := by decide +kernel
theorem s394_3358 {L : Nat} {xs : Nat → Int32} {d x : Nat} {M : qxM} {st : List Value} {a1 a2 a3 a4 a5 a6 a7 a8 : Option Value} {z : Nat} : Rs L xs (d) 394 3358 [some (.ref z), a1, a2, a3, a4, a5, a6, a7, a8] st M x = Rs L xs (d) 394 3359 [some (.ref z), a1, a2, a3, a4, a5, a6, a7, a8] (.ref z :: st) M x := Rs_next c394_3358 rfl
theorem c394_3359 : qx_code 394 3359 = some (3359, .iload 5, 3361, 0, 0, 0) := by decide +kernel
theorem s394_3359 {L : Nat} {xs : Nat → Int32} {d x : Nat} {M : qxM} {st : List Value} {a0 a1 a2 a3 a4 a6 a7 a8 : Option Value} {z : Int32} : Rs L xs (d) 394 3359 [a0, a1, a2, a3, a4, some (.int z), a6, a7, a8] st M x = Rs L xs (d) 394 3361 [a0, a1, a2, a3, a4, some (.int z), a6, a7, a8] (.int z :: st) M x := Rs_next c394_3359 rfl
theorem c394_3361 : qx_code 394 3361 = some (3361, .iconst 1, 3362, 0, 0, 0) := by decide +kernel
theorem s394_3361 {L : Nat} {xs : Nat → Int32} {d x : Nat} {M : qxM} {st : List Value} {ls : qxL} : Rs L xs (d) 394 3361 ls st M x = Rs L xs (d) 394 3362 ls (.int (nI 1) :: st) M x := Rs_next c394_3361 rfl
theorem c394_3362 : qx_code 394 3362 = some (3362, .iadd, 3363, 0, 0, 0) := by decide +kernel
theorem s394_3362 {L : Nat} {xs : Nat → Int32} {d x : Nat} {M : qxM} {st : List Value} {ls : qxL} {z y : Int32} : Rs L xs (d) 394 3362 ls (.int y :: .int z :: st) M x = Rs L xs (d) 394 3363 ls (.int (z + y) :: st) M x := Rs_next c394_3362 rfl
theorem c394_3363 : qx_code 394 3363 = some (3363, .iaload, 3364, 0, 0, 0) := by decide +kernel
theorem s394_3363s {L : Nat} {xs : Nat → Int32} {d x : Nat} {M : qxM} {st : List Value} {ls : qxL} {j : Int32} (hj : qx_ib j L = true) : Rs L xs (d) 394 3363 ls (.int j :: .ref 1 :: st) M x = Rs L xs (d) 394 3364 ls (.int (xs j.toNatClampNeg) :: st) M x := Rs_unless (qx_ib_not hj) c394_3363 rfl
theorem c394_3364 : qx_code 394 3364 = some (3364, .aload_n 0, 3365, 0, 0, 0) := by decide +kernel
theorem s394_3364 {L : Nat} {xs : Nat → Int32} {d x : Nat} {M : qxM} {st : List Value} {a1 a2 a3 a4 a5 a6 a7 a8 : Option Value} {z : Nat} : Rs L xs (d) 394 3364 [some (.ref z), a1, a2, a3, a4, a5, a6, a7, a8] st M x = Rs L xs (d) 394 3365 [some (.ref z), a1, a2, a3, a4, a5, a6, a7, a8] (.ref z :: st) M x := Rs_next c394_3364 rfl
theorem c394_3365 : qx_code 394 3365 = some (3365, .iload 5, 3367, 0, 0, 0) := by decide +kernel
theorem s394_3365 {L : Nat} {xs : Nat → Int32} {d x : Nat} {M : qxM} {st : List Value} {a0 a1 a2 a3 a4 a6 a7 a8 : Option Value} {z : Int32} : Rs L xs (d) 394 3365 [a0, a1, a2, a3, a4, some (.int z), a6, a7, a8] st M x = Rs L xs (d) 394 3367 [a0, a1, a2, a3, a4, some (.int z), a6, a7, a8] (.int z :: st) M x := Rs_next c394_3365 rfl
theorem c394_3367 : qx_code 394 3367 = some (3367, .iconst 2, 3368, 0, 0, 0) := by decide +kernel
theorem s394_3367 {L : Nat} {xs : Nat → Int32} {d x : Nat} {M : qxM} {st : List Value} {ls : qxL} : Rs L xs (d) 394 3367 ls st M x = Rs L xs (d) 394 3368 ls (.int (nI 2) :: st) M x := Rs_next c394_3367 rfl
theorem c394_3368 : qx_code 394 3368 = some (3368, .iadd, 3369, 0, 0, 0) := by decide +kernel
theorem s394_3368 {L : Nat} {xs : Nat → Int32} {d x : Nat} {M : qxM} {st : List Value} {ls : qxL} {z y : Int32} : Rs L xs (d) 394 3368 ls (.int y :: .int z :: st) M x = Rs L xs (d) 394 3369 ls (.int (z + y) :: st) M x := Rs_next c394_3368 rfl
theorem c394_3369 : qx_code 394 3369 = some (3369, .iaload, 3370, 0, 0, 0) := by decide +kernel
theorem s394_3369s {L : Nat} {xs : Nat → Int32} {d x : Nat} {M : qxM} {st : List Value} {ls : qxL} {j : Int32} (hj : qx_ib j L = true) : Rs L xs (d) 394 3369 ls (.int j :: .ref 1 :: st) M x = Rs L xs (d) 394 3370 ls (.int (xs j.toNatClampNeg) :: st) M x := Rs_unless (qx_ib_not hj) c394_3369 rfl
theorem c394_3370 : qx_code 394 3370 = some (3370, .aload_n 0, 3371, 0, 0, 0) := by decide +kernel
theorem s394_3370 {L : Nat} {xs : Nat → Int32} {d x : Nat} {M : qxM} {st : List Value} {a1 a2 a3 a4 a5 a6 a7 a8 : Option Value} {z : Nat} : Rs L xs (d) 394 3370 [some (.ref z), a1, a2, a3, a4, a5, a6, a7, a8] st M x = Rs L xs (d) 394 3371 [some (.ref z), a1, a2, a3, a4, a5, a6, a7, a8] (.ref z :: st) M x := Rs_next c394_3370 rfl
theorem c394_3371 : qx_code 394 3371 = some (3371, .iload 5, 3373, 0, 0, 0) := by decide +kernel
theorem s394_3371 {L : Nat} {xs : Nat → Int32} {d x : Nat} {M : qxM} {st : List Value} {a0 a1 a2 a3 a4 a6 a7 a8 : Option Value} {z : Int32} : Rs L xs (d) 394 3371 [a0, a1, a2, a3, a4, some (.int z), a6, a7, a8] st M x = Rs L xs (d) 394 3373 [a0, a1, a2, a3, a4, some (.int z), a6, a7, a8] (.int z :: st) M x := Rs_next c394_3371 rfl
theorem c394_3373 : qx_code 394 3373 = some (3373, .iconst 3, 3374, 0, 0, 0) := by decide +kernel
theorem s394_3373 {L : Nat} {xs : Nat → Int32} {d x : Nat} {M : qxM} {st : List Value} {ls : qxL} : Rs L xs (d) 394 3373 ls st M x = Rs L xs (d) 394 3374 ls (.int (nI 3) :: st) M x := Rs_next c394_3373 rfl
theorem c394_3374 : qx_code 394 3374 = some (3374, .iadd, 3375, 0, 0, 0) := by decide +kernel
theorem s394_3374 {L : Nat} {xs : Nat → Int32} {d x : Nat} {M : qxM} {st : List Value} {ls : qxL} {z y : Int32} : Rs L xs (d) 394 3374 ls (.int y :: .int z :: st) M x = Rs L xs (d) 394 3375 ls (.int (z + y) :: st) M x := Rs_next c394_3374 rfl
theorem c394_3375 : qx_code 394 3375 = some (3375, .iaload, 3376, 0, 0, 0) := by decide +kernel
theorem s394_3375s {L : Nat} {xs : Nat → Int32} {d x : Nat} {M : qxM} {st : List Value} {ls : qxL} {j : Int32} (hj : qx_ib j L = true) : Rs L xs (d) 394 3375 ls (.int j :: .ref 1 :: st) M x = Rs L xs (d) 394 3376 ls (.int (xs j.toNatClampNeg) :: st) M x := Rs_unless (qx_ib_not hj) c394_3375 rfl
theorem c394_3376 : qx_code 394 3376 = some (3376, .ifCond .eq 7, 3379, 3383, 0, 0) := by decide +kernel
theorem s394_3376 {L : Nat} {xs : Nat → Int32} {d x : Nat} {M : qxM} {st : List Value} {ls : qxL} {z : Int32} : Rs L xs (d) 394 3376 ls (.int z :: st) M x = if z = 0 then Rs L xs (d) 394 3383 ls st M x else Rs L xs (d) 394 3379 ls st M x := Rs_ite c394_3376 rfl
theorem c394_3379 : qx_code 394 3379 = some (3379, .iconst 1, 3380, 0, 0, 0) := by decide +kernel
theorem s394_3379 {L : Nat} {xs : Nat → Int32} {d x : Nat} {M : qxM} {st : List Value} {ls : qxL} : Rs L xs (d) 394 3379 ls st M x = Rs L xs (d) 394 3380 ls (.int (nI 1) :: st) M x := Rs_next c394_3379 rfl
theorem c394_3380 : qx_code 394 3380 = some (3380, .goto 4, 3383, 3384, 0, 0) := by decide +kernel
theorem s394_3380 {L : Nat} {xs : Nat → Int32} {d x : Nat} {M : qxM} {st : List Value} {ls : qxL} : Rs L xs (d) 394 3380 ls st M x = Rs L xs (d) 394 3384 ls st M x := Rs_next c394_3380 rfl
theorem c394_3383 : qx_code 394 3383 = some (3383, .iconst 0, 3384, 0, 0, 0) := by decide +kernel
theorem s394_3383 {L : Nat} {xs : Nat → Int32} {d x : Nat} {M : qxM} {st : List Value} {ls : qxL} : Rs L xs (d) 394 3383 ls st M x = Rs L xs (d) 394 3384 ls (.int (nI 0) :: st) M x := Rs_next c394_3383 rfl
theorem c394_3384 : qx_code 394 3384 = some (3384, .aload_n 3, 3385, 0, 0, 0) := by decide +kernel
theorem s394_3384 {L : Nat} {xs : Nat → Int32} {d x : Nat} {M : qxM} {st : List Value} {a0 a1 a2 a4 a5 a6 a7 a8 : Option Value} {z : Nat} : Rs L xs (d) 394 3384 [a0, a1, a2, some (.ref z), a4, a5, a6, a7, a8] st M x = Rs L xs (d) 394 3385 [a0, a1, a2, some (.ref z), a4, a5, a6, a7, a8] (.ref z :: st) M x := Rs_next c394_3384 rfl
theorem c394_3385 : qx_code 394 3385 = some (3385, .invokestatic 393, 3388, 388, 5, 1486) := by decide +kernel
theorem s394_3385 {L : Nat} {xs : Nat → Int32} {d x : Nat} {M : qxM} {st : List Value} {ls : qxL} {z0 : Nat} {z1 : Int32} {z2 : Int32} {z3 : Int32} {z4 : Nat} (hs : st.length ≤ 4) : Rs L xs (d + 1) 394 3385 ls (.ref z4 :: .int z3 :: .int z2 :: .int z1 :: .ref z0 :: st) M x = (Rs L xs d 388 0 [some (.ref z0), some (.int z1), some (.int z2), some (.int z3), some (.ref z4), none] [] M 0).bind (qx_kn L xs (d + 1) 394 3385 3388 388 ls st x) := by
  have h1 : qx_act L xs (qx_rt 394) (3385, .invokestatic 393, 3388, 388, 5, 1486) ls (.ref z4 :: .int z3 :: .int z2 :: .int z1 :: .ref z0 :: st) M = if 5 ≤ (.ref z4 :: .int z3 :: .int z2 :: .int z1 :: .ref z0 :: st).length ∧ st.length ≤ 4 then some (.inr (.inr (.inr (388, [.ref z0, .int z1, .int z2, .int z3, .ref z4], st)))) else none := rfl
  rw [if_pos ⟨by simp [List.length_cons]; try omega, hs⟩] at h1
  exact Rs_call c394_3385 h1 rfl
theorem c394_3388 : qx_code 394 3388 = some (3388, .istore 6, 3390, 0, 0, 0) := by decide +kernel
theorem s394_3388i {L : Nat} {xs : Nat → Int32} {d x : Nat} {M : qxM} {st : List Value} {a0 a1 a2 a3 a4 a6 a7 a8 : Option Value} {z : Int32} {y : Int32} : Rs L xs (d) 394 3388 [a0, a1, a2, a3, a4, some (.int y), a6, a7, a8] (.int z :: st) M x = Rs L xs (d) 394 3390 [a0, a1, a2, a3, a4, some (.int y), some (.int z), a7, a8] st M x := Rs_next c394_3388 rfl
theorem c394_3390 : qx_code 394 3390 = some (3390, .aload_n 2, 3391, 0, 0, 0) := by decide +kernel
theorem s394_3390 {L : Nat} {xs : Nat → Int32} {d x : Nat} {M : qxM} {st : List Value} {a0 a1 a3 a4 a5 a6 a7 a8 : Option Value} {z : Nat} : Rs L xs (d) 394 3390 [a0, a1, some (.ref z), a3, a4, a5, a6, a7, a8] st M x = Rs L xs (d) 394 3391 [a0, a1, some (.ref z), a3, a4, a5, a6, a7, a8] (.ref z :: st) M x := Rs_next c394_3390 rfl
theorem c394_3391 : qx_code 394 3391 = some (3391, .aload_n 0, 3392, 0, 0, 0) := by decide +kernel
theorem s394_3391 {L : Nat} {xs : Nat → Int32} {d x : Nat} {M : qxM} {st : List Value} {a1 a2 a3 a4 a5 a6 a7 a8 : Option Value} {z : Nat} : Rs L xs (d) 394 3391 [some (.ref z), a1, a2, a3, a4, a5, a6, a7, a8] st M x = Rs L xs (d) 394 3392 [some (.ref z), a1, a2, a3, a4, a5, a6, a7, a8] (.ref z :: st) M x := Rs_next c394_3391 rfl
theorem c394_3392 : qx_code 394 3392 = some (3392, .iload 5, 3394, 0, 0, 0) := by decide +kernel
theorem s394_3392 {L : Nat} {xs : Nat → Int32} {d x : Nat} {M : qxM} {st : List Value} {a0 a1 a2 a3 a4 a6 a7 a8 : Option Value} {z : Int32} : Rs L xs (d) 394 3392 [a0, a1, a2, a3, a4, some (.int z), a6, a7, a8] st M x = Rs L xs (d) 394 3394 [a0, a1, a2, a3, a4, some (.int z), a6, a7, a8] (.int z :: st) M x := Rs_next c394_3392 rfl
theorem c394_3394 : qx_code 394 3394 = some (3394, .iconst 1, 3395, 0, 0, 0) := by decide +kernel
theorem s394_3394 {L : Nat} {xs : Nat → Int32} {d x : Nat} {M : qxM} {st : List Value} {ls : qxL} : Rs L xs (d) 394 3394 ls st M x = Rs L xs (d) 394 3395 ls (.int (nI 1) :: st) M x := Rs_next c394_3394 rfl
theorem c394_3395 : qx_code 394 3395 = some (3395, .iadd, 3396, 0, 0, 0) := by decide +kernel
theorem s394_3395 {L : Nat} {xs : Nat → Int32} {d x : Nat} {M : qxM} {st : List Value} {ls : qxL} {z y : Int32} : Rs L xs (d) 394 3395 ls (.int y :: .int z :: st) M x = Rs L xs (d) 394 3396 ls (.int (z + y) :: st) M x := Rs_next c394_3395 rfl
theorem c394_3396 : qx_code 394 3396 = some (3396, .iaload, 3397, 0, 0, 0) := by decide +kernel
theorem s394_3396s {L : Nat} {xs : Nat → Int32} {d x : Nat} {M : qxM} {st : List Value} {ls : qxL} {j : Int32} (hj : qx_ib j L = true) : Rs L xs (d) 394 3396 ls (.int j :: .ref 1 :: st) M x = Rs L xs (d) 394 3397 ls (.int (xs j.toNatClampNeg) :: st) M x := Rs_unless (qx_ib_not hj) c394_3396 rfl
theorem c394_3397 : qx_code 394 3397 = some (3397, .aload_n 0, 3398, 0, 0, 0) := by decide +kernel
theorem s394_3397 {L : Nat} {xs : Nat → Int32} {d x : Nat} {M : qxM} {st : List Value} {a1 a2 a3 a4 a5 a6 a7 a8 : Option Value} {z : Nat} : Rs L xs (d) 394 3397 [some (.ref z), a1, a2, a3, a4, a5, a6, a7, a8] st M x = Rs L xs (d) 394 3398 [some (.ref z), a1, a2, a3, a4, a5, a6, a7, a8] (.ref z :: st) M x := Rs_next c394_3397 rfl
theorem c394_3398 : qx_code 394 3398 = some (3398, .iload 5, 3400, 0, 0, 0) := by decide +kernel
theorem s394_3398 {L : Nat} {xs : Nat → Int32} {d x : Nat} {M : qxM} {st : List Value} {a0 a1 a2 a3 a4 a6 a7 a8 : Option Value} {z : Int32} : Rs L xs (d) 394 3398 [a0, a1, a2, a3, a4, some (.int z), a6, a7, a8] st M x = Rs L xs (d) 394 3400 [a0, a1, a2, a3, a4, some (.int z), a6, a7, a8] (.int z :: st) M x := Rs_next c394_3398 rfl
theorem c394_3400 : qx_code 394 3400 = some (3400, .iconst 2, 3401, 0, 0, 0) := by decide +kernel
theorem s394_3400 {L : Nat} {xs : Nat → Int32} {d x : Nat} {M : qxM} {st : List Value} {ls : qxL} : Rs L xs (d) 394 3400 ls st M x = Rs L xs (d) 394 3401 ls (.int (nI 2) :: st) M x := Rs_next c394_3400 rfl
theorem c394_3401 : qx_code 394 3401 = some (3401, .iadd, 3402, 0, 0, 0) := by decide +kernel
theorem s394_3401 {L : Nat} {xs : Nat → Int32} {d x : Nat} {M : qxM} {st : List Value} {ls : qxL} {z y : Int32} : Rs L xs (d) 394 3401 ls (.int y :: .int z :: st) M x = Rs L xs (d) 394 3402 ls (.int (z + y) :: st) M x := Rs_next c394_3401 rfl
theorem c394_3402 : qx_code 394 3402 = some (3402, .iaload, 3403, 0, 0, 0) := by decide +kernel
theorem s394_3402s {L : Nat} {xs : Nat → Int32} {d x : Nat} {M : qxM} {st : List Value} {ls : qxL} {j : Int32} (hj : qx_ib j L = true) : Rs L xs (d) 394 3402 ls (.int j :: .ref 1 :: st) M x = Rs L xs (d) 394 3403 ls (.int (xs j.toNatClampNeg) :: st) M x := Rs_unless (qx_ib_not hj) c394_3402 rfl
theorem c394_3403 : qx_code 394 3403 = some (3403, .aload_n 0, 3404, 0, 0, 0) := by decide +kernel
theorem s394_3403 {L : Nat} {xs : Nat → Int32} {d x : Nat} {M : qxM} {st : List Value} {a1 a2 a3 a4 a5 a6 a7 a8 : Option Value} {z : Nat} : Rs L xs (d) 394 3403 [some (.ref z), a1, a2, a3, a4, a5, a6, a7, a8] st M x = Rs L xs (d) 394 3404 [some (.ref z), a1, a2, a3, a4, a5, a6, a7, a8] (.ref z :: st) M x := Rs_next c394_3403 rfl
theorem c394_3404 : qx_code 394 3404 = some (3404, .iload 5, 3406, 0, 0, 0) := by decide +kernel
theorem s394_3404 {L : Nat} {xs : Nat → Int32} {d x : Nat} {M : qxM} {st : List Value} {a0 a1 a2 a3 a4 a6 a7 a8 : Option Value} {z : Int32} : Rs L xs (d) 394 3404 [a0, a1, a2, a3, a4, some (.int z), a6, a7, a8] st M x = Rs L xs (d) 394 3406 [a0, a1, a2, a3, a4, some (.int z), a6, a7, a8] (.int z :: st) M x := Rs_next c394_3404 rfl
theorem c394_3406 : qx_code 394 3406 = some (3406, .iconst 3, 3407, 0, 0, 0) := by decide +kernel
theorem s394_3406 {L : Nat} {xs : Nat → Int32} {d x : Nat} {M : qxM} {st : List Value} {ls : qxL} : Rs L xs (d) 394 3406 ls st M x = Rs L xs (d) 394 3407 ls (.int (nI 3) :: st) M x := Rs_next c394_3406 rfl
theorem c394_3407 : qx_code 394 3407 = some (3407, .iadd, 3408, 0, 0, 0) := by decide +kernel
theorem s394_3407 {L : Nat} {xs : Nat → Int32} {d x : Nat} {M : qxM} {st : List Value} {ls : qxL} {z y : Int32} : Rs L xs (d) 394 3407 ls (.int y :: .int z :: st) M x = Rs L xs (d) 394 3408 ls (.int (z + y) :: st) M x := Rs_next c394_3407 rfl
theorem c394_3408 : qx_code 394 3408 = some (3408, .iaload, 3409, 0, 0, 0) := by decide +kernel
theorem s394_3408s {L : Nat} {xs : Nat → Int32} {d x : Nat} {M : qxM} {st : List Value} {ls : qxL} {j : Int32} (hj : qx_ib j L = true) : Rs L xs (d) 394 3408 ls (.int j :: .ref 1 :: st) M x = Rs L xs (d) 394 3409 ls (.int (xs j.toNatClampNeg) :: st) M x := Rs_unless (qx_ib_not hj) c394_3408 rfl
theorem c394_3409 : qx_code 394 3409 = some (3409, .ifCond .eq 7, 3412, 3416, 0, 0) := by decide +kernel
theorem s394_3409 {L : Nat} {xs : Nat → Int32} {d x : Nat} {M : qxM} {st : List Value} {ls : qxL} {z : Int32} : Rs L xs (d) 394 3409 ls (.int z :: st) M x = if z = 0 then Rs L xs (d) 394 3416 ls st M x else Rs L xs (d) 394 3412 ls st M x := Rs_ite c394_3409 rfl
theorem c394_3412 : qx_code 394 3412 = some (3412, .iconst 1, 3413, 0, 0, 0) := by decide +kernel
theorem s394_3412 {L : Nat} {xs : Nat → Int32} {d x : Nat} {M : qxM} {st : List Value} {ls : qxL} : Rs L xs (d) 394 3412 ls st M x = Rs L xs (d) 394 3413 ls (.int (nI 1) :: st) M x := Rs_next c394_3412 rfl
theorem c394_3413 : qx_code 394 3413 = some (3413, .goto 4, 3416, 3417, 0, 0) := by decide +kernel
theorem s394_3413 {L : Nat} {xs : Nat → Int32} {d x : Nat} {M : qxM} {st : List Value} {ls : qxL} : Rs L xs (d) 394 3413 ls st M x = Rs L xs (d) 394 3417 ls st M x := Rs_next c394_3413 rfl
theorem c394_3416 : qx_code 394 3416 = some (3416, .iconst 0, 3417, 0, 0, 0) := by decide +kernel
theorem s394_3416 {L : Nat} {xs : Nat → Int32} {d x : Nat} {M : qxM} {st : List Value} {ls : qxL} : Rs L xs (d) 394 3416 ls st M x = Rs L xs (d) 394 3417 ls (.int (nI 0) :: st) M x := Rs_next c394_3416 rfl
theorem c394_3417 : qx_code 394 3417 = some (3417, .invokevirtual 396, 3420, 327, 4, 2213) := by decide +kernel
theorem s394_3417 {L : Nat} {xs : Nat → Int32} {d x : Nat} {M : qxM} {st : List Value} {ls : qxL} {t : Nat} {z0 : Int32} {z1 : Int32} {z2 : Int32} (hk : qx_kd t = 18) (hs : st.length ≤ 4) : Rs L xs (d + 1) 394 3417 ls (.int z2 :: .int z1 :: .int z0 :: .ref t :: st) M x = (Rs L xs d 327 0 [some (.ref t), some (.int z0), some (.int z1), some (.int z2)] [] M 0).bind (qx_kn L xs (d + 1) 394 3417 3420 327 ls st x) := by
  have h1 : qx_act L xs (qx_rt 394) (3417, .invokevirtual 396, 3420, 327, 4, 2213) ls (.int z2 :: .int z1 :: .int z0 :: .ref t :: st) M = if 4 ≤ (.int z2 :: .int z1 :: .int z0 :: .ref t :: st).length ∧ st.length ≤ 4 then some (.inr (.inr (.inr (327, [.ref t, .int z0, .int z1, .int z2], st)))) else none := rfl
  rw [if_pos ⟨by simp [List.length_cons]; try omega, hs⟩] at h1
  have h2 := qx_kd_obj (k := 8) (by decide) hk
  exact Rs_call c394_3417 h1 (by rw [show qx_args 327 [.ref t, .int z0, .int z1, .int z2] = decide (qx_sh t = some (.inl 8)) from rfl]; exact decide_eq_true h2)
theorem c394_3420 : qx_code 394 3420 = some (3420, .istore 7, 3422, 0, 0, 0) := by decide +kernel
theorem s394_3420i {L : Nat} {xs : Nat → Int32} {d x : Nat} {M : qxM} {st : List Value} {a0 a1 a2 a3 a4 a5 a7 a8 : Option Value} {z : Int32} {y : Int32} : Rs L xs (d) 394 3420 [a0, a1, a2, a3, a4, a5, some (.int y), a7, a8] (.int z :: st) M x = Rs L xs (d) 394 3422 [a0, a1, a2, a3, a4, a5, some (.int y), some (.int z), a8] st M x := Rs_next c394_3420 rfl
theorem c394_3422 : qx_code 394 3422 = some (3422, .aload_n 2, 3423, 0, 0, 0) := by decide +kernel
theorem s394_3422 {L : Nat} {xs : Nat → Int32} {d x : Nat} {M : qxM} {st : List Value} {a0 a1 a3 a4 a5 a6 a7 a8 : Option Value} {z : Nat} : Rs L xs (d) 394 3422 [a0, a1, some (.ref z), a3, a4, a5, a6, a7, a8] st M x = Rs L xs (d) 394 3423 [a0, a1, some (.ref z), a3, a4, a5, a6, a7, a8] (.ref z :: st) M x := Rs_next c394_3422 rfl
theorem c394_3423 : qx_code 394 3423 = some (3423, .invokevirtual 218, 3426, 177, 1, 1613) := by decide +kernel
theorem s394_3423 {L : Nat} {xs : Nat → Int32} {d x : Nat} {M : qxM} {st : List Value} {ls : qxL} {t : Nat} (hk : qx_kd t = 18) (hs : st.length ≤ 4) : Rs L xs (d + 1) 394 3423 ls (.ref t :: st) M x = (Rs L xs d 177 0 [some (.ref t)] [] M 0).bind (qx_kn L xs (d + 1) 394 3423 3426 177 ls st x) := by
  have h1 : qx_act L xs (qx_rt 394) (3423, .invokevirtual 218, 3426, 177, 1, 1613) ls (.ref t :: st) M = if 1 ≤ (.ref t :: st).length ∧ st.length ≤ 4 then some (.inr (.inr (.inr (177, [.ref t], st)))) else none := rfl
  rw [if_pos ⟨by simp [List.length_cons]; try omega, hs⟩] at h1
  have h2 := qx_kd_obj (k := 8) (by decide) hk
  exact Rs_call c394_3423 h1 (by rw [show qx_args 177 [.ref t] = decide (qx_sh t = some (.inl 8)) from rfl]; exact decide_eq_true h2)
theorem c394_3426 : qx_code 394 3426 = some (3426, .iload 6, 3428, 0, 0, 0) := by decide +kernel
theorem s394_3426 {L : Nat} {xs : Nat → Int32} {d x : Nat} {M : qxM} {st : List Value} {a0 a1 a2 a3 a4 a5 a7 a8 : Option Value} {z : Int32} : Rs L xs (d) 394 3426 [a0, a1, a2, a3, a4, a5, some (.int z), a7, a8] st M x = Rs L xs (d) 394 3428 [a0, a1, a2, a3, a4, a5, some (.int z), a7, a8] (.int z :: st) M x := Rs_next c394_3426 rfl
theorem c394_3428 : qx_code 394 3428 = some (3428, .if_icmp .eq 5, 3431, 3433, 0, 0) := by decide +kernel
theorem s394_3428 {L : Nat} {xs : Nat → Int32} {d x : Nat} {M : qxM} {st : List Value} {ls : qxL} {z y : Int32} : Rs L xs (d) 394 3428 ls (.int y :: .int z :: st) M x = if z = y then Rs L xs (d) 394 3433 ls st M x else Rs L xs (d) 394 3431 ls st M x := Rs_ite c394_3428 rfl
theorem c394_3433 : qx_code 394 3433 = some (3433, .iload 6, 3435, 0, 0, 0) := by decide +kernel
theorem s394_3433 {L : Nat} {xs : Nat → Int32} {d x : Nat} {M : qxM} {st : List Value} {a0 a1 a2 a3 a4 a5 a7 a8 : Option Value} {z : Int32} : Rs L xs (d) 394 3433 [a0, a1, a2, a3, a4, a5, some (.int z), a7, a8] st M x = Rs L xs (d) 394 3435 [a0, a1, a2, a3, a4, a5, some (.int z), a7, a8] (.int z :: st) M x := Rs_next c394_3433 rfl
theorem c394_3435 : qx_code 394 3435 = some (3435, .ifCond .ne 15, 3438, 3450, 0, 0) := by decide +kernel
theorem s394_3435 {L : Nat} {xs : Nat → Int32} {d x : Nat} {M : qxM} {st : List Value} {ls : qxL} {z : Int32} : Rs L xs (d) 394 3435 ls (.int z :: st) M x = if z = 0 then Rs L xs (d) 394 3438 ls st M x else Rs L xs (d) 394 3450 ls st M x := Rs_ite c394_3435 rfl
theorem c394_3438 : qx_code 394 3438 = some (3438, .aload_n 3, 3439, 0, 0, 0) := by decide +kernel
theorem s394_3438 {L : Nat} {xs : Nat → Int32} {d x : Nat} {M : qxM} {st : List Value} {a0 a1 a2 a4 a5 a6 a7 a8 : Option Value} {z : Nat} : Rs L xs (d) 394 3438 [a0, a1, a2, some (.ref z), a4, a5, a6, a7, a8] st M x = Rs L xs (d) 394 3439 [a0, a1, a2, some (.ref z), a4, a5, a6, a7, a8] (.ref z :: st) M x := Rs_next c394_3438 rfl
theorem c394_3439 : qx_code 394 3439 = some (3439, .iconst 0, 3440, 0, 0, 0) := by decide +kernel
theorem s394_3439 {L : Nat} {xs : Nat → Int32} {d x : Nat} {M : qxM} {st : List Value} {ls : qxL} : Rs L xs (d) 394 3439 ls st M x = Rs L xs (d) 394 3440 ls (.int (nI 0) :: st) M x := Rs_next c394_3439 rfl
theorem c394_3440 : qx_code 394 3440 = some (3440, .laload, 3441, 0, 0, 0) := by decide +kernel
theorem s394_3440 {L : Nat} {xs : Nat → Int32} {d x : Nat} {M : qxM} {st : List Value} {ls : qxL} {t : Nat} {j : Int32} (hk : qx_kd t = 4) (hj : qx_ib j (qx_ln t) = true) : Rs L xs (d) 394 3440 ls (.int j :: .ref t :: st) M x = Rs L xs (d) 394 3441 ls (.long (M.2.1 j.toNatClampNeg) :: st) M x := by
  have h1 := qx_kd_row (k := 4) (by decide) hk
  exact Rs_unless (qx_ib_not hj) c394_3440 (by unfold qx_act; dsimp only; rw [h1]; rfl)
theorem c394_3441 : qx_code 394 3441 = some (3441, .iload 7, 3443, 0, 0, 0) := by decide +kernel
theorem s394_3441 {L : Nat} {xs : Nat → Int32} {d x : Nat} {M : qxM} {st : List Value} {a0 a1 a2 a3 a4 a5 a6 a8 : Option Value} {z : Int32} : Rs L xs (d) 394 3441 [a0, a1, a2, a3, a4, a5, a6, some (.int z), a8] st M x = Rs L xs (d) 394 3443 [a0, a1, a2, a3, a4, a5, a6, some (.int z), a8] (.int z :: st) M x := Rs_next c394_3441 rfl
theorem c394_3443 : qx_code 394 3443 = some (3443, .i2l, 3444, 0, 0, 0) := by decide +kernel
theorem s394_3443 {L : Nat} {xs : Nat → Int32} {d x : Nat} {M : qxM} {st : List Value} {ls : qxL} {z : Int32} : Rs L xs (d) 394 3443 ls (.int z :: st) M x = Rs L xs (d) 394 3444 ls (.long z.toInt64 :: st) M x := Rs_next c394_3443 rfl
theorem c394_3444 : qx_code 394 3444 = some (3444, .lcmp, 3445, 0, 0, 0) := by decide +kernel
theorem s394_3444 {L : Nat} {xs : Nat → Int32} {d x : Nat} {M : qxM} {st : List Value} {ls : qxL} {z y : Int64} : Rs L xs (d) 394 3444 ls (.long y :: .long z :: st) M x = Rs L xs (d) 394 3445 ls (.int (lg_cmp z y) :: st) M x := Rs_next c394_3444 rfl
theorem c394_3445 : qx_code 394 3445 = some (3445, .ifCond .eq 5, 3448, 3450, 0, 0) := by decide +kernel
theorem s394_3445 {L : Nat} {xs : Nat → Int32} {d x : Nat} {M : qxM} {st : List Value} {ls : qxL} {z : Int32} : Rs L xs (d) 394 3445 ls (.int z :: st) M x = if z = 0 then Rs L xs (d) 394 3450 ls st M x else Rs L xs (d) 394 3448 ls st M x := Rs_ite c394_3445 rfl
theorem c394_3450 : qx_code 394 3450 = some (3450, .goto 296, 3453, 3746, 0, 0) := by decide +kernel
theorem s394_3450 {L : Nat} {xs : Nat → Int32} {d x : Nat} {M : qxM} {st : List Value} {ls : qxL} : Rs L xs (d) 394 3450 ls st M x = Rs L xs (d) 394 3746 ls st M x := Rs_next c394_3450 rfl
theorem c394_3453 : qx_code 394 3453 = some (3453, .aload_n 1, 3454, 0, 0, 0) := by decide +kernel
theorem s394_3453 {L : Nat} {xs : Nat → Int32} {d x : Nat} {M : qxM} {st : List Value} {a0 a2 a3 a4 a5 a6 a7 a8 : Option Value} {z : Nat} : Rs L xs (d) 394 3453 [a0, some (.ref z), a2, a3, a4, a5, a6, a7, a8] st M x = Rs L xs (d) 394 3454 [a0, some (.ref z), a2, a3, a4, a5, a6, a7, a8] (.ref z :: st) M x := Rs_next c394_3453 rfl
theorem c394_3454 : qx_code 394 3454 = some (3454, .aload_n 0, 3455, 0, 0, 0) := by decide +kernel
theorem s394_3454 {L : Nat} {xs : Nat → Int32} {d x : Nat} {M : qxM} {st : List Value} {a1 a2 a3 a4 a5 a6 a7 a8 : Option Value} {z : Nat} : Rs L xs (d) 394 3454 [some (.ref z), a1, a2, a3, a4, a5, a6, a7, a8] st M x = Rs L xs (d) 394 3455 [some (.ref z), a1, a2, a3, a4, a5, a6, a7, a8] (.ref z :: st) M x := Rs_next c394_3454 rfl
theorem c394_3455 : qx_code 394 3455 = some (3455, .iload 5, 3457, 0, 0, 0) := by decide +kernel
theorem s394_3455 {L : Nat} {xs : Nat → Int32} {d x : Nat} {M : qxM} {st : List Value} {a0 a1 a2 a3 a4 a6 a7 a8 : Option Value} {z : Int32} : Rs L xs (d) 394 3455 [a0, a1, a2, a3, a4, some (.int z), a6, a7, a8] st M x = Rs L xs (d) 394 3457 [a0, a1, a2, a3, a4, some (.int z), a6, a7, a8] (.int z :: st) M x := Rs_next c394_3455 rfl
theorem c394_3457 : qx_code 394 3457 = some (3457, .iconst 1, 3458, 0, 0, 0) := by decide +kernel
theorem s394_3457 {L : Nat} {xs : Nat → Int32} {d x : Nat} {M : qxM} {st : List Value} {ls : qxL} : Rs L xs (d) 394 3457 ls st M x = Rs L xs (d) 394 3458 ls (.int (nI 1) :: st) M x := Rs_next c394_3457 rfl
theorem c394_3458 : qx_code 394 3458 = some (3458, .iadd, 3459, 0, 0, 0) := by decide +kernel
theorem s394_3458 {L : Nat} {xs : Nat → Int32} {d x : Nat} {M : qxM} {st : List Value} {ls : qxL} {z y : Int32} : Rs L xs (d) 394 3458 ls (.int y :: .int z :: st) M x = Rs L xs (d) 394 3459 ls (.int (z + y) :: st) M x := Rs_next c394_3458 rfl
theorem c394_3459 : qx_code 394 3459 = some (3459, .iaload, 3460, 0, 0, 0) := by decide +kernel
theorem s394_3459s {L : Nat} {xs : Nat → Int32} {d x : Nat} {M : qxM} {st : List Value} {ls : qxL} {j : Int32} (hj : qx_ib j L = true) : Rs L xs (d) 394 3459 ls (.int j :: .ref 1 :: st) M x = Rs L xs (d) 394 3460 ls (.int (xs j.toNatClampNeg) :: st) M x := Rs_unless (qx_ib_not hj) c394_3459 rfl
theorem c394_3460 : qx_code 394 3460 = some (3460, .aload_n 0, 3461, 0, 0, 0) := by decide +kernel
theorem s394_3460 {L : Nat} {xs : Nat → Int32} {d x : Nat} {M : qxM} {st : List Value} {a1 a2 a3 a4 a5 a6 a7 a8 : Option Value} {z : Nat} : Rs L xs (d) 394 3460 [some (.ref z), a1, a2, a3, a4, a5, a6, a7, a8] st M x = Rs L xs (d) 394 3461 [some (.ref z), a1, a2, a3, a4, a5, a6, a7, a8] (.ref z :: st) M x := Rs_next c394_3460 rfl
theorem c394_3461 : qx_code 394 3461 = some (3461, .iload 5, 3463, 0, 0, 0) := by decide +kernel
theorem s394_3461 {L : Nat} {xs : Nat → Int32} {d x : Nat} {M : qxM} {st : List Value} {a0 a1 a2 a3 a4 a6 a7 a8 : Option Value} {z : Int32} : Rs L xs (d) 394 3461 [a0, a1, a2, a3, a4, some (.int z), a6, a7, a8] st M x = Rs L xs (d) 394 3463 [a0, a1, a2, a3, a4, some (.int z), a6, a7, a8] (.int z :: st) M x := Rs_next c394_3461 rfl
theorem c394_3463 : qx_code 394 3463 = some (3463, .iconst 2, 3464, 0, 0, 0) := by decide +kernel
theorem s394_3463 {L : Nat} {xs : Nat → Int32} {d x : Nat} {M : qxM} {st : List Value} {ls : qxL} : Rs L xs (d) 394 3463 ls st M x = Rs L xs (d) 394 3464 ls (.int (nI 2) :: st) M x := Rs_next c394_3463 rfl
theorem c394_3464 : qx_code 394 3464 = some (3464, .iadd, 3465, 0, 0, 0) := by decide +kernel
theorem s394_3464 {L : Nat} {xs : Nat → Int32} {d x : Nat} {M : qxM} {st : List Value} {ls : qxL} {z y : Int32} : Rs L xs (d) 394 3464 ls (.int y :: .int z :: st) M x = Rs L xs (d) 394 3465 ls (.int (z + y) :: st) M x := Rs_next c394_3464 rfl
theorem c394_3465 : qx_code 394 3465 = some (3465, .iaload, 3466, 0, 0, 0) := by decide +kernel
theorem s394_3465s {L : Nat} {xs : Nat → Int32} {d x : Nat} {M : qxM} {st : List Value} {ls : qxL} {j : Int32} (hj : qx_ib j L = true) : Rs L xs (d) 394 3465 ls (.int j :: .ref 1 :: st) M x = Rs L xs (d) 394 3466 ls (.int (xs j.toNatClampNeg) :: st) M x := Rs_unless (qx_ib_not hj) c394_3465 rfl
theorem c394_3466 : qx_code 394 3466 = some (3466, .aload_n 3, 3467, 0, 0, 0) := by decide +kernel
theorem s394_3466 {L : Nat} {xs : Nat → Int32} {d x : Nat} {M : qxM} {st : List Value} {a0 a1 a2 a4 a5 a6 a7 a8 : Option Value} {z : Nat} : Rs L xs (d) 394 3466 [a0, a1, a2, some (.ref z), a4, a5, a6, a7, a8] st M x = Rs L xs (d) 394 3467 [a0, a1, a2, some (.ref z), a4, a5, a6, a7, a8] (.ref z :: st) M x := Rs_next c394_3466 rfl
theorem c394_3467 : qx_code 394 3467 = some (3467, .invokestatic 397, 3470, 389, 4, 1496) := by decide +kernel
theorem s394_3467 {L : Nat} {xs : Nat → Int32} {d x : Nat} {M : qxM} {st : List Value} {ls : qxL} {z0 : Nat} {z1 : Int32} {z2 : Int32} {z3 : Nat} (hs : st.length ≤ 4) : Rs L xs (d + 1) 394 3467 ls (.ref z3 :: .int z2 :: .int z1 :: .ref z0 :: st) M x = (Rs L xs d 389 0 [some (.ref z0), some (.int z1), some (.int z2), some (.ref z3), none] [] M 0).bind (qx_kn L xs (d + 1) 394 3467 3470 389 ls st x) := by
  have h1 : qx_act L xs (qx_rt 394) (3467, .invokestatic 397, 3470, 389, 4, 1496) ls (.ref z3 :: .int z2 :: .int z1 :: .ref z0 :: st) M = if 4 ≤ (.ref z3 :: .int z2 :: .int z1 :: .ref z0 :: st).length ∧ st.length ≤ 4 then some (.inr (.inr (.inr (389, [.ref z0, .int z1, .int z2, .ref z3], st)))) else none := rfl
  rw [if_pos ⟨by simp [List.length_cons]; try omega, hs⟩] at h1
  exact Rs_call c394_3467 h1 rfl
theorem c394_3470 : qx_code 394 3470 = some (3470, .istore 6, 3472, 0, 0, 0) := by decide +kernel
theorem s394_3470i {L : Nat} {xs : Nat → Int32} {d x : Nat} {M : qxM} {st : List Value} {a0 a1 a2 a3 a4 a6 a7 a8 : Option Value} {z : Int32} {y : Int32} : Rs L xs (d) 394 3470 [a0, a1, a2, a3, a4, some (.int y), a6, a7, a8] (.int z :: st) M x = Rs L xs (d) 394 3472 [a0, a1, a2, a3, a4, some (.int y), some (.int z), a7, a8] st M x := Rs_next c394_3470 rfl
theorem c394_3472 : qx_code 394 3472 = some (3472, .aload_n 2, 3473, 0, 0, 0) := by decide +kernel
theorem s394_3472 {L : Nat} {xs : Nat → Int32} {d x : Nat} {M : qxM} {st : List Value} {a0 a1 a3 a4 a5 a6 a7 a8 : Option Value} {z : Nat} : Rs L xs (d) 394 3472 [a0, a1, some (.ref z), a3, a4, a5, a6, a7, a8] st M x = Rs L xs (d) 394 3473 [a0, a1, some (.ref z), a3, a4, a5, a6, a7, a8] (.ref z :: st) M x := Rs_next c394_3472 rfl
theorem c394_3473 : qx_code 394 3473 = some (3473, .aload_n 0, 3474, 0, 0, 0) := by decide +kernel
theorem s394_3473 {L : Nat} {xs : Nat → Int32} {d x : Nat} {M : qxM} {st : List Value} {a1 a2 a3 a4 a5 a6 a7 a8 : Option Value} {z : Nat} : Rs L xs (d) 394 3473 [some (.ref z), a1, a2, a3, a4, a5, a6, a7, a8] st M x = Rs L xs (d) 394 3474 [some (.ref z), a1, a2, a3, a4, a5, a6, a7, a8] (.ref z :: st) M x := Rs_next c394_3473 rfl
theorem c394_3474 : qx_code 394 3474 = some (3474, .iload 5, 3476, 0, 0, 0) := by decide +kernel
theorem s394_3474 {L : Nat} {xs : Nat → Int32} {d x : Nat} {M : qxM} {st : List Value} {a0 a1 a2 a3 a4 a6 a7 a8 : Option Value} {z : Int32} : Rs L xs (d) 394 3474 [a0, a1, a2, a3, a4, some (.int z), a6, a7, a8] st M x = Rs L xs (d) 394 3476 [a0, a1, a2, a3, a4, some (.int z), a6, a7, a8] (.int z :: st) M x := Rs_next c394_3474 rfl
theorem c394_3476 : qx_code 394 3476 = some (3476, .iconst 1, 3477, 0, 0, 0) := by decide +kernel
theorem s394_3476 {L : Nat} {xs : Nat → Int32} {d x : Nat} {M : qxM} {st : List Value} {ls : qxL} : Rs L xs (d) 394 3476 ls st M x = Rs L xs (d) 394 3477 ls (.int (nI 1) :: st) M x := Rs_next c394_3476 rfl
theorem c394_3477 : qx_code 394 3477 = some (3477, .iadd, 3478, 0, 0, 0) := by decide +kernel
theorem s394_3477 {L : Nat} {xs : Nat → Int32} {d x : Nat} {M : qxM} {st : List Value} {ls : qxL} {z y : Int32} : Rs L xs (d) 394 3477 ls (.int y :: .int z :: st) M x = Rs L xs (d) 394 3478 ls (.int (z + y) :: st) M x := Rs_next c394_3477 rfl
theorem c394_3478 : qx_code 394 3478 = some (3478, .iaload, 3479, 0, 0, 0) := by decide +kernel
theorem s394_3478s {L : Nat} {xs : Nat → Int32} {d x : Nat} {M : qxM} {st : List Value} {ls : qxL} {j : Int32} (hj : qx_ib j L = true) : Rs L xs (d) 394 3478 ls (.int j :: .ref 1 :: st) M x = Rs L xs (d) 394 3479 ls (.int (xs j.toNatClampNeg) :: st) M x := Rs_unless (qx_ib_not hj) c394_3478 rfl
theorem c394_3479 : qx_code 394 3479 = some (3479, .aload_n 0, 3480, 0, 0, 0) := by decide +kernel
theorem s394_3479 {L : Nat} {xs : Nat → Int32} {d x : Nat} {M : qxM} {st : List Value} {a1 a2 a3 a4 a5 a6 a7 a8 : Option Value} {z : Nat} : Rs L xs (d) 394 3479 [some (.ref z), a1, a2, a3, a4, a5, a6, a7, a8] st M x = Rs L xs (d) 394 3480 [some (.ref z), a1, a2, a3, a4, a5, a6, a7, a8] (.ref z :: st) M x := Rs_next c394_3479 rfl
theorem c394_3480 : qx_code 394 3480 = some (3480, .iload 5, 3482, 0, 0, 0) := by decide +kernel
theorem s394_3480 {L : Nat} {xs : Nat → Int32} {d x : Nat} {M : qxM} {st : List Value} {a0 a1 a2 a3 a4 a6 a7 a8 : Option Value} {z : Int32} : Rs L xs (d) 394 3480 [a0, a1, a2, a3, a4, some (.int z), a6, a7, a8] st M x = Rs L xs (d) 394 3482 [a0, a1, a2, a3, a4, some (.int z), a6, a7, a8] (.int z :: st) M x := Rs_next c394_3480 rfl
theorem c394_3482 : qx_code 394 3482 = some (3482, .iconst 2, 3483, 0, 0, 0) := by decide +kernel
theorem s394_3482 {L : Nat} {xs : Nat → Int32} {d x : Nat} {M : qxM} {st : List Value} {ls : qxL} : Rs L xs (d) 394 3482 ls st M x = Rs L xs (d) 394 3483 ls (.int (nI 2) :: st) M x := Rs_next c394_3482 rfl
theorem c394_3483 : qx_code 394 3483 = some (3483, .iadd, 3484, 0, 0, 0) := by decide +kernel
theorem s394_3483 {L : Nat} {xs : Nat → Int32} {d x : Nat} {M : qxM} {st : List Value} {ls : qxL} {z y : Int32} : Rs L xs (d) 394 3483 ls (.int y :: .int z :: st) M x = Rs L xs (d) 394 3484 ls (.int (z + y) :: st) M x := Rs_next c394_3483 rfl
theorem c394_3484 : qx_code 394 3484 = some (3484, .iaload, 3485, 0, 0, 0) := by decide +kernel
theorem s394_3484s {L : Nat} {xs : Nat → Int32} {d x : Nat} {M : qxM} {st : List Value} {ls : qxL} {j : Int32} (hj : qx_ib j L = true) : Rs L xs (d) 394 3484 ls (.int j :: .ref 1 :: st) M x = Rs L xs (d) 394 3485 ls (.int (xs j.toNatClampNeg) :: st) M x := Rs_unless (qx_ib_not hj) c394_3484 rfl
theorem c394_3485 : qx_code 394 3485 = some (3485, .invokevirtual 399, 3488, 328, 3, 2217) := by decide +kernel
theorem s394_3485 {L : Nat} {xs : Nat → Int32} {d x : Nat} {M : qxM} {st : List Value} {ls : qxL} {t : Nat} {z0 : Int32} {z1 : Int32} (hk : qx_kd t = 18) (hs : st.length ≤ 4) : Rs L xs (d + 1) 394 3485 ls (.int z1 :: .int z0 :: .ref t :: st) M x = (Rs L xs d 328 0 [some (.ref t), some (.int z0), some (.int z1), none] [] M 0).bind (qx_kn L xs (d + 1) 394 3485 3488 328 ls st x) := by
  have h1 : qx_act L xs (qx_rt 394) (3485, .invokevirtual 399, 3488, 328, 3, 2217) ls (.int z1 :: .int z0 :: .ref t :: st) M = if 3 ≤ (.int z1 :: .int z0 :: .ref t :: st).length ∧ st.length ≤ 4 then some (.inr (.inr (.inr (328, [.ref t, .int z0, .int z1], st)))) else none := rfl
  rw [if_pos ⟨by simp [List.length_cons]; try omega, hs⟩] at h1
  have h2 := qx_kd_obj (k := 8) (by decide) hk
  exact Rs_call c394_3485 h1 (by rw [show qx_args 328 [.ref t, .int z0, .int z1] = decide (qx_sh t = some (.inl 8)) from rfl]; exact decide_eq_true h2)
theorem c394_3488 : qx_code 394 3488 = some (3488, .istore 7, 3490, 0, 0, 0) := by decide +kernel
theorem s394_3488i {L : Nat} {xs : Nat → Int32} {d x : Nat} {M : qxM} {st : List Value} {a0 a1 a2 a3 a4 a5 a7 a8 : Option Value} {z : Int32} {y : Int32} : Rs L xs (d) 394 3488 [a0, a1, a2, a3, a4, a5, some (.int y), a7, a8] (.int z :: st) M x = Rs L xs (d) 394 3490 [a0, a1, a2, a3, a4, a5, some (.int y), some (.int z), a8] st M x := Rs_next c394_3488 rfl
theorem c394_3490 : qx_code 394 3490 = some (3490, .aload_n 2, 3491, 0, 0, 0) := by decide +kernel
theorem s394_3490 {L : Nat} {xs : Nat → Int32} {d x : Nat} {M : qxM} {st : List Value} {a0 a1 a3 a4 a5 a6 a7 a8 : Option Value} {z : Nat} : Rs L xs (d) 394 3490 [a0, a1, some (.ref z), a3, a4, a5, a6, a7, a8] st M x = Rs L xs (d) 394 3491 [a0, a1, some (.ref z), a3, a4, a5, a6, a7, a8] (.ref z :: st) M x := Rs_next c394_3490 rfl
theorem c394_3491 : qx_code 394 3491 = some (3491, .invokevirtual 218, 3494, 177, 1, 1613) := by decide +kernel
theorem s394_3491 {L : Nat} {xs : Nat → Int32} {d x : Nat} {M : qxM} {st : List Value} {ls : qxL} {t : Nat} (hk : qx_kd t = 18) (hs : st.length ≤ 4) : Rs L xs (d + 1) 394 3491 ls (.ref t :: st) M x = (Rs L xs d 177 0 [some (.ref t)] [] M 0).bind (qx_kn L xs (d + 1) 394 3491 3494 177 ls st x) := by
  have h1 : qx_act L xs (qx_rt 394) (3491, .invokevirtual 218, 3494, 177, 1, 1613) ls (.ref t :: st) M = if 1 ≤ (.ref t :: st).length ∧ st.length ≤ 4 then some (.inr (.inr (.inr (177, [.ref t], st)))) else none := rfl
  rw [if_pos ⟨by simp [List.length_cons]; try omega, hs⟩] at h1
  have h2 := qx_kd_obj (k := 8) (by decide) hk
  exact Rs_call c394_3491 h1 (by rw [show qx_args 177 [.ref t] = decide (qx_sh t = some (.inl 8)) from rfl]; exact decide_eq_true h2)
theorem c394_3494 : qx_code 394 3494 = some (3494, .iload 6, 3496, 0, 0, 0) := by decide +kernel
theorem s394_3494 {L : Nat} {xs : Nat → Int32} {d x : Nat} {M : qxM} {st : List Value} {a0 a1 a2 a3 a4 a5 a7 a8 : Option Value} {z : Int32} : Rs L xs (d) 394 3494 [a0, a1, a2, a3, a4, a5, some (.int z), a7, a8] st M x = Rs L xs (d) 394 3496 [a0, a1, a2, a3, a4, a5, some (.int z), a7, a8] (.int z :: st) M x := Rs_next c394_3494 rfl
theorem c394_3496 : qx_code 394 3496 = some (3496, .if_icmp .eq 5, 3499, 3501, 0, 0) := by decide +kernel
theorem s394_3496 {L : Nat} {xs : Nat → Int32} {d x : Nat} {M : qxM} {st : List Value} {ls : qxL} {z y : Int32} : Rs L xs (d) 394 3496 ls (.int y :: .int z :: st) M x = if z = y then Rs L xs (d) 394 3501 ls st M x else Rs L xs (d) 394 3499 ls st M x := Rs_ite c394_3496 rfl
theorem c394_3501 : qx_code 394 3501 = some (3501, .iload 6, 3503, 0, 0, 0) := by decide +kernel
theorem s394_3501 {L : Nat} {xs : Nat → Int32} {d x : Nat} {M : qxM} {st : List Value} {a0 a1 a2 a3 a4 a5 a7 a8 : Option Value} {z : Int32} : Rs L xs (d) 394 3501 [a0, a1, a2, a3, a4, a5, some (.int z), a7, a8] st M x = Rs L xs (d) 394 3503 [a0, a1, a2, a3, a4, a5, some (.int z), a7, a8] (.int z :: st) M x := Rs_next c394_3501 rfl
theorem c394_3503 : qx_code 394 3503 = some (3503, .ifCond .ne 15, 3506, 3518, 0, 0) := by decide +kernel
theorem s394_3503 {L : Nat} {xs : Nat → Int32} {d x : Nat} {M : qxM} {st : List Value} {ls : qxL} {z : Int32} : Rs L xs (d) 394 3503 ls (.int z :: st) M x = if z = 0 then Rs L xs (d) 394 3506 ls st M x else Rs L xs (d) 394 3518 ls st M x := Rs_ite c394_3503 rfl
theorem c394_3506 : qx_code 394 3506 = some (3506, .aload_n 3, 3507, 0, 0, 0) := by decide +kernel
theorem s394_3506 {L : Nat} {xs : Nat → Int32} {d x : Nat} {M : qxM} {st : List Value} {a0 a1 a2 a4 a5 a6 a7 a8 : Option Value} {z : Nat} : Rs L xs (d) 394 3506 [a0, a1, a2, some (.ref z), a4, a5, a6, a7, a8] st M x = Rs L xs (d) 394 3507 [a0, a1, a2, some (.ref z), a4, a5, a6, a7, a8] (.ref z :: st) M x := Rs_next c394_3506 rfl
theorem c394_3507 : qx_code 394 3507 = some (3507, .iconst 0, 3508, 0, 0, 0) := by decide +kernel
theorem s394_3507 {L : Nat} {xs : Nat → Int32} {d x : Nat} {M : qxM} {st : List Value} {ls : qxL} : Rs L xs (d) 394 3507 ls st M x = Rs L xs (d) 394 3508 ls (.int (nI 0) :: st) M x := Rs_next c394_3507 rfl
theorem c394_3508 : qx_code 394 3508 = some (3508, .laload, 3509, 0, 0, 0) := by decide +kernel
theorem s394_3508 {L : Nat} {xs : Nat → Int32} {d x : Nat} {M : qxM} {st : List Value} {ls : qxL} {t : Nat} {j : Int32} (hk : qx_kd t = 4) (hj : qx_ib j (qx_ln t) = true) : Rs L xs (d) 394 3508 ls (.int j :: .ref t :: st) M x = Rs L xs (d) 394 3509 ls (.long (M.2.1 j.toNatClampNeg) :: st) M x := by
  have h1 := qx_kd_row (k := 4) (by decide) hk
  exact Rs_unless (qx_ib_not hj) c394_3508 (by unfold qx_act; dsimp only; rw [h1]; rfl)
theorem c394_3509 : qx_code 394 3509 = some (3509, .iload 7, 3511, 0, 0, 0) := by decide +kernel
theorem s394_3509 {L : Nat} {xs : Nat → Int32} {d x : Nat} {M : qxM} {st : List Value} {a0 a1 a2 a3 a4 a5 a6 a8 : Option Value} {z : Int32} : Rs L xs (d) 394 3509 [a0, a1, a2, a3, a4, a5, a6, some (.int z), a8] st M x = Rs L xs (d) 394 3511 [a0, a1, a2, a3, a4, a5, a6, some (.int z), a8] (.int z :: st) M x := Rs_next c394_3509 rfl
theorem c394_3511 : qx_code 394 3511 = some (3511, .i2l, 3512, 0, 0, 0) := by decide +kernel
theorem s394_3511 {L : Nat} {xs : Nat → Int32} {d x : Nat} {M : qxM} {st : List Value} {ls : qxL} {z : Int32} : Rs L xs (d) 394 3511 ls (.int z :: st) M x = Rs L xs (d) 394 3512 ls (.long z.toInt64 :: st) M x := Rs_next c394_3511 rfl
theorem c394_3512 : qx_code 394 3512 = some (3512, .lcmp, 3513, 0, 0, 0) := by decide +kernel
theorem s394_3512 {L : Nat} {xs : Nat → Int32} {d x : Nat} {M : qxM} {st : List Value} {ls : qxL} {z y : Int64} : Rs L xs (d) 394 3512 ls (.long y :: .long z :: st) M x = Rs L xs (d) 394 3513 ls (.int (lg_cmp z y) :: st) M x := Rs_next c394_3512 rfl
theorem c394_3513 : qx_code 394 3513 = some (3513, .ifCond .eq 5, 3516, 3518, 0, 0) := by decide +kernel
theorem s394_3513 {L : Nat} {xs : Nat → Int32} {d x : Nat} {M : qxM} {st : List Value} {ls : qxL} {z : Int32} : Rs L xs (d) 394 3513 ls (.int z :: st) M x = if z = 0 then Rs L xs (d) 394 3518 ls st M x else Rs L xs (d) 394 3516 ls st M x := Rs_ite c394_3513 rfl
theorem c394_3518 : qx_code 394 3518 = some (3518, .goto 228, 3521, 3746, 0, 0) := by decide +kernel
theorem s394_3518 {L : Nat} {xs : Nat → Int32} {d x : Nat} {M : qxM} {st : List Value} {ls : qxL} : Rs L xs (d) 394 3518 ls st M x = Rs L xs (d) 394 3746 ls st M x := Rs_next c394_3518 rfl
theorem c394_3521 : qx_code 394 3521 = some (3521, .aload_n 1, 3522, 0, 0, 0) := by decide +kernel
theorem s394_3521 {L : Nat} {xs : Nat → Int32} {d x : Nat} {M : qxM} {st : List Value} {a0 a2 a3 a4 a5 a6 a7 a8 : Option Value} {z : Nat} : Rs L xs (d) 394 3521 [a0, some (.ref z), a2, a3, a4, a5, a6, a7, a8] st M x = Rs L xs (d) 394 3522 [a0, some (.ref z), a2, a3, a4, a5, a6, a7, a8] (.ref z :: st) M x := Rs_next c394_3521 rfl
theorem c394_3522 : qx_code 394 3522 = some (3522, .aload_n 0, 3523, 0, 0, 0) := by decide +kernel
theorem s394_3522 {L : Nat} {xs : Nat → Int32} {d x : Nat} {M : qxM} {st : List Value} {a1 a2 a3 a4 a5 a6 a7 a8 : Option Value} {z : Nat} : Rs L xs (d) 394 3522 [some (.ref z), a1, a2, a3, a4, a5, a6, a7, a8] st M x = Rs L xs (d) 394 3523 [some (.ref z), a1, a2, a3, a4, a5, a6, a7, a8] (.ref z :: st) M x := Rs_next c394_3522 rfl
theorem c394_3523 : qx_code 394 3523 = some (3523, .iload 5, 3525, 0, 0, 0) := by decide +kernel
theorem s394_3523 {L : Nat} {xs : Nat → Int32} {d x : Nat} {M : qxM} {st : List Value} {a0 a1 a2 a3 a4 a6 a7 a8 : Option Value} {z : Int32} : Rs L xs (d) 394 3523 [a0, a1, a2, a3, a4, some (.int z), a6, a7, a8] st M x = Rs L xs (d) 394 3525 [a0, a1, a2, a3, a4, some (.int z), a6, a7, a8] (.int z :: st) M x := Rs_next c394_3523 rfl
theorem c394_3525 : qx_code 394 3525 = some (3525, .iconst 1, 3526, 0, 0, 0) := by decide +kernel
theorem s394_3525 {L : Nat} {xs : Nat → Int32} {d x : Nat} {M : qxM} {st : List Value} {ls : qxL} : Rs L xs (d) 394 3525 ls st M x = Rs L xs (d) 394 3526 ls (.int (nI 1) :: st) M x := Rs_next c394_3525 rfl
theorem c394_3526 : qx_code 394 3526 = some (3526, .iadd, 3527, 0, 0, 0) := by decide +kernel
theorem s394_3526 {L : Nat} {xs : Nat → Int32} {d x : Nat} {M : qxM} {st : List Value} {ls : qxL} {z y : Int32} : Rs L xs (d) 394 3526 ls (.int y :: .int z :: st) M x = Rs L xs (d) 394 3527 ls (.int (z + y) :: st) M x := Rs_next c394_3526 rfl
theorem c394_3527 : qx_code 394 3527 = some (3527, .iaload, 3528, 0, 0, 0) := by decide +kernel
theorem s394_3527s {L : Nat} {xs : Nat → Int32} {d x : Nat} {M : qxM} {st : List Value} {ls : qxL} {j : Int32} (hj : qx_ib j L = true) : Rs L xs (d) 394 3527 ls (.int j :: .ref 1 :: st) M x = Rs L xs (d) 394 3528 ls (.int (xs j.toNatClampNeg) :: st) M x := Rs_unless (qx_ib_not hj) c394_3527 rfl
theorem c394_3528 : qx_code 394 3528 = some (3528, .aload_n 3, 3529, 0, 0, 0) := by decide +kernel
theorem s394_3528 {L : Nat} {xs : Nat → Int32} {d x : Nat} {M : qxM} {st : List Value} {a0 a1 a2 a4 a5 a6 a7 a8 : Option Value} {z : Nat} : Rs L xs (d) 394 3528 [a0, a1, a2, some (.ref z), a4, a5, a6, a7, a8] st M x = Rs L xs (d) 394 3529 [a0, a1, a2, some (.ref z), a4, a5, a6, a7, a8] (.ref z :: st) M x := Rs_next c394_3528 rfl
theorem c394_3529 : qx_code 394 3529 = some (3529, .invokestatic 400, 3532, 390, 3, 1504) := by decide +kernel
theorem s394_3529 {L : Nat} {xs : Nat → Int32} {d x : Nat} {M : qxM} {st : List Value} {ls : qxL} {z0 : Nat} {z1 : Int32} {z2 : Nat} (hs : st.length ≤ 4) : Rs L xs (d + 1) 394 3529 ls (.ref z2 :: .int z1 :: .ref z0 :: st) M x = (Rs L xs d 390 0 [some (.ref z0), some (.int z1), some (.ref z2), none] [] M 0).bind (qx_kn L xs (d + 1) 394 3529 3532 390 ls st x) := by
  have h1 : qx_act L xs (qx_rt 394) (3529, .invokestatic 400, 3532, 390, 3, 1504) ls (.ref z2 :: .int z1 :: .ref z0 :: st) M = if 3 ≤ (.ref z2 :: .int z1 :: .ref z0 :: st).length ∧ st.length ≤ 4 then some (.inr (.inr (.inr (390, [.ref z0, .int z1, .ref z2], st)))) else none := rfl
  rw [if_pos ⟨by simp [List.length_cons]; try omega, hs⟩] at h1
  exact Rs_call c394_3529 h1 rfl
theorem c394_3532 : qx_code 394 3532 = some (3532, .istore 6, 3534, 0, 0, 0) := by decide +kernel
theorem s394_3532i {L : Nat} {xs : Nat → Int32} {d x : Nat} {M : qxM} {st : List Value} {a0 a1 a2 a3 a4 a6 a7 a8 : Option Value} {z : Int32} {y : Int32} : Rs L xs (d) 394 3532 [a0, a1, a2, a3, a4, some (.int y), a6, a7, a8] (.int z :: st) M x = Rs L xs (d) 394 3534 [a0, a1, a2, a3, a4, some (.int y), some (.int z), a7, a8] st M x := Rs_next c394_3532 rfl
theorem c394_3534 : qx_code 394 3534 = some (3534, .aload_n 2, 3535, 0, 0, 0) := by decide +kernel
theorem s394_3534 {L : Nat} {xs : Nat → Int32} {d x : Nat} {M : qxM} {st : List Value} {a0 a1 a3 a4 a5 a6 a7 a8 : Option Value} {z : Nat} : Rs L xs (d) 394 3534 [a0, a1, some (.ref z), a3, a4, a5, a6, a7, a8] st M x = Rs L xs (d) 394 3535 [a0, a1, some (.ref z), a3, a4, a5, a6, a7, a8] (.ref z :: st) M x := Rs_next c394_3534 rfl
theorem c394_3535 : qx_code 394 3535 = some (3535, .aload_n 0, 3536, 0, 0, 0) := by decide +kernel
theorem s394_3535 {L : Nat} {xs : Nat → Int32} {d x : Nat} {M : qxM} {st : List Value} {a1 a2 a3 a4 a5 a6 a7 a8 : Option Value} {z : Nat} : Rs L xs (d) 394 3535 [some (.ref z), a1, a2, a3, a4, a5, a6, a7, a8] st M x = Rs L xs (d) 394 3536 [some (.ref z), a1, a2, a3, a4, a5, a6, a7, a8] (.ref z :: st) M x := Rs_next c394_3535 rfl
theorem c394_3536 : qx_code 394 3536 = some (3536, .iload 5, 3538, 0, 0, 0) := by decide +kernel
theorem s394_3536 {L : Nat} {xs : Nat → Int32} {d x : Nat} {M : qxM} {st : List Value} {a0 a1 a2 a3 a4 a6 a7 a8 : Option Value} {z : Int32} : Rs L xs (d) 394 3536 [a0, a1, a2, a3, a4, some (.int z), a6, a7, a8] st M x = Rs L xs (d) 394 3538 [a0, a1, a2, a3, a4, some (.int z), a6, a7, a8] (.int z :: st) M x := Rs_next c394_3536 rfl
theorem c394_3538 : qx_code 394 3538 = some (3538, .iconst 1, 3539, 0, 0, 0) := by decide +kernel
theorem s394_3538 {L : Nat} {xs : Nat → Int32} {d x : Nat} {M : qxM} {st : List Value} {ls : qxL} : Rs L xs (d) 394 3538 ls st M x = Rs L xs (d) 394 3539 ls (.int (nI 1) :: st) M x := Rs_next c394_3538 rfl
theorem c394_3539 : qx_code 394 3539 = some (3539, .iadd, 3540, 0, 0, 0) := by decide +kernel
theorem s394_3539 {L : Nat} {xs : Nat → Int32} {d x : Nat} {M : qxM} {st : List Value} {ls : qxL} {z y : Int32} : Rs L xs (d) 394 3539 ls (.int y :: .int z :: st) M x = Rs L xs (d) 394 3540 ls (.int (z + y) :: st) M x := Rs_next c394_3539 rfl
theorem c394_3540 : qx_code 394 3540 = some (3540, .iaload, 3541, 0, 0, 0) := by decide +kernel
theorem s394_3540s {L : Nat} {xs : Nat → Int32} {d x : Nat} {M : qxM} {st : List Value} {ls : qxL} {j : Int32} (hj : qx_ib j L = true) : Rs L xs (d) 394 3540 ls (.int j :: .ref 1 :: st) M x = Rs L xs (d) 394 3541 ls (.int (xs j.toNatClampNeg) :: st) M x := Rs_unless (qx_ib_not hj) c394_3540 rfl
theorem c394_3541 : qx_code 394 3541 = some (3541, .invokevirtual 402, 3544, 329, 2, 2221) := by decide +kernel
theorem s394_3541 {L : Nat} {xs : Nat → Int32} {d x : Nat} {M : qxM} {st : List Value} {ls : qxL} {t : Nat} {z0 : Int32} (hk : qx_kd t = 18) (hs : st.length ≤ 4) : Rs L xs (d + 1) 394 3541 ls (.int z0 :: .ref t :: st) M x = (Rs L xs d 329 0 [some (.ref t), some (.int z0), none] [] M 0).bind (qx_kn L xs (d + 1) 394 3541 3544 329 ls st x) := by
  have h1 : qx_act L xs (qx_rt 394) (3541, .invokevirtual 402, 3544, 329, 2, 2221) ls (.int z0 :: .ref t :: st) M = if 2 ≤ (.int z0 :: .ref t :: st).length ∧ st.length ≤ 4 then some (.inr (.inr (.inr (329, [.ref t, .int z0], st)))) else none := rfl
  rw [if_pos ⟨by simp [List.length_cons]; try omega, hs⟩] at h1
  have h2 := qx_kd_obj (k := 8) (by decide) hk
  exact Rs_call c394_3541 h1 (by rw [show qx_args 329 [.ref t, .int z0] = decide (qx_sh t = some (.inl 8)) from rfl]; exact decide_eq_true h2)
theorem c394_3544 : qx_code 394 3544 = some (3544, .istore 7, 3546, 0, 0, 0) := by decide +kernel
theorem s394_3544i {L : Nat} {xs : Nat → Int32} {d x : Nat} {M : qxM} {st : List Value} {a0 a1 a2 a3 a4 a5 a7 a8 : Option Value} {z : Int32} {y : Int32} : Rs L xs (d) 394 3544 [a0, a1, a2, a3, a4, a5, some (.int y), a7, a8] (.int z :: st) M x = Rs L xs (d) 394 3546 [a0, a1, a2, a3, a4, a5, some (.int y), some (.int z), a8] st M x := Rs_next c394_3544 rfl
theorem c394_3546 : qx_code 394 3546 = some (3546, .aload_n 2, 3547, 0, 0, 0) := by decide +kernel
theorem s394_3546 {L : Nat} {xs : Nat → Int32} {d x : Nat} {M : qxM} {st : List Value} {a0 a1 a3 a4 a5 a6 a7 a8 : Option Value} {z : Nat} : Rs L xs (d) 394 3546 [a0, a1, some (.ref z), a3, a4, a5, a6, a7, a8] st M x = Rs L xs (d) 394 3547 [a0, a1, some (.ref z), a3, a4, a5, a6, a7, a8] (.ref z :: st) M x := Rs_next c394_3546 rfl
theorem c394_3547 : qx_code 394 3547 = some (3547, .invokevirtual 218, 3550, 177, 1, 1613) := by decide +kernel
theorem s394_3547 {L : Nat} {xs : Nat → Int32} {d x : Nat} {M : qxM} {st : List Value} {ls : qxL} {t : Nat} (hk : qx_kd t = 18) (hs : st.length ≤ 4) : Rs L xs (d + 1) 394 3547 ls (.ref t :: st) M x = (Rs L xs d 177 0 [some (.ref t)] [] M 0).bind (qx_kn L xs (d + 1) 394 3547 3550 177 ls st x) := by
  have h1 : qx_act L xs (qx_rt 394) (3547, .invokevirtual 218, 3550, 177, 1, 1613) ls (.ref t :: st) M = if 1 ≤ (.ref t :: st).length ∧ st.length ≤ 4 then some (.inr (.inr (.inr (177, [.ref t], st)))) else none := rfl
  rw [if_pos ⟨by simp [List.length_cons]; try omega, hs⟩] at h1
  have h2 := qx_kd_obj (k := 8) (by decide) hk
  exact Rs_call c394_3547 h1 (by rw [show qx_args 177 [.ref t] = decide (qx_sh t = some (.inl 8)) from rfl]; exact decide_eq_true h2)
theorem c394_3550 : qx_code 394 3550 = some (3550, .iload 6, 3552, 0, 0, 0) := by decide +kernel
theorem s394_3550 {L : Nat} {xs : Nat → Int32} {d x : Nat} {M : qxM} {st : List Value} {a0 a1 a2 a3 a4 a5 a7 a8 : Option Value} {z : Int32} : Rs L xs (d) 394 3550 [a0, a1, a2, a3, a4, a5, some (.int z), a7, a8] st M x = Rs L xs (d) 394 3552 [a0, a1, a2, a3, a4, a5, some (.int z), a7, a8] (.int z :: st) M x := Rs_next c394_3550 rfl
theorem c394_3552 : qx_code 394 3552 = some (3552, .if_icmp .eq 5, 3555, 3557, 0, 0) := by decide +kernel
theorem s394_3552 {L : Nat} {xs : Nat → Int32} {d x : Nat} {M : qxM} {st : List Value} {ls : qxL} {z y : Int32} : Rs L xs (d) 394 3552 ls (.int y :: .int z :: st) M x = if z = y then Rs L xs (d) 394 3557 ls st M x else Rs L xs (d) 394 3555 ls st M x := Rs_ite c394_3552 rfl
theorem c394_3557 : qx_code 394 3557 = some (3557, .iload 6, 3559, 0, 0, 0) := by decide +kernel
theorem s394_3557 {L : Nat} {xs : Nat → Int32} {d x : Nat} {M : qxM} {st : List Value} {a0 a1 a2 a3 a4 a5 a7 a8 : Option Value} {z : Int32} : Rs L xs (d) 394 3557 [a0, a1, a2, a3, a4, a5, some (.int z), a7, a8] st M x = Rs L xs (d) 394 3559 [a0, a1, a2, a3, a4, a5, some (.int z), a7, a8] (.int z :: st) M x := Rs_next c394_3557 rfl
theorem c394_3559 : qx_code 394 3559 = some (3559, .ifCond .ne 15, 3562, 3574, 0, 0) := by decide +kernel
theorem s394_3559 {L : Nat} {xs : Nat → Int32} {d x : Nat} {M : qxM} {st : List Value} {ls : qxL} {z : Int32} : Rs L xs (d) 394 3559 ls (.int z :: st) M x = if z = 0 then Rs L xs (d) 394 3562 ls st M x else Rs L xs (d) 394 3574 ls st M x := Rs_ite c394_3559 rfl
theorem c394_3562 : qx_code 394 3562 = some (3562, .aload_n 3, 3563, 0, 0, 0) := by decide +kernel
theorem s394_3562 {L : Nat} {xs : Nat → Int32} {d x : Nat} {M : qxM} {st : List Value} {a0 a1 a2 a4 a5 a6 a7 a8 : Option Value} {z : Nat} : Rs L xs (d) 394 3562 [a0, a1, a2, some (.ref z), a4, a5, a6, a7, a8] st M x = Rs L xs (d) 394 3563 [a0, a1, a2, some (.ref z), a4, a5, a6, a7, a8] (.ref z :: st) M x := Rs_next c394_3562 rfl
theorem c394_3563 : qx_code 394 3563 = some (3563, .iconst 0, 3564, 0, 0, 0) := by decide +kernel
theorem s394_3563 {L : Nat} {xs : Nat → Int32} {d x : Nat} {M : qxM} {st : List Value} {ls : qxL} : Rs L xs (d) 394 3563 ls st M x = Rs L xs (d) 394 3564 ls (.int (nI 0) :: st) M x := Rs_next c394_3563 rfl
theorem c394_3564 : qx_code 394 3564 = some (3564, .laload, 3565, 0, 0, 0) := by decide +kernel
theorem s394_3564 {L : Nat} {xs : Nat → Int32} {d x : Nat} {M : qxM} {st : List Value} {ls : qxL} {t : Nat} {j : Int32} (hk : qx_kd t = 4) (hj : qx_ib j (qx_ln t) = true) : Rs L xs (d) 394 3564 ls (.int j :: .ref t :: st) M x = Rs L xs (d) 394 3565 ls (.long (M.2.1 j.toNatClampNeg) :: st) M x := by
  have h1 := qx_kd_row (k := 4) (by decide) hk
  exact Rs_unless (qx_ib_not hj) c394_3564 (by unfold qx_act; dsimp only; rw [h1]; rfl)
theorem c394_3565 : qx_code 394 3565 = some (3565, .iload 7, 3567, 0, 0, 0) := by decide +kernel
theorem s394_3565 {L : Nat} {xs : Nat → Int32} {d x : Nat} {M : qxM} {st : List Value} {a0 a1 a2 a3 a4 a5 a6 a8 : Option Value} {z : Int32} : Rs L xs (d) 394 3565 [a0, a1, a2, a3, a4, a5, a6, some (.int z), a8] st M x = Rs L xs (d) 394 3567 [a0, a1, a2, a3, a4, a5, a6, some (.int z), a8] (.int z :: st) M x := Rs_next c394_3565 rfl
theorem c394_3567 : qx_code 394 3567 = some (3567, .i2l, 3568, 0, 0, 0) := by decide +kernel
theorem s394_3567 {L : Nat} {xs : Nat → Int32} {d x : Nat} {M : qxM} {st : List Value} {ls : qxL} {z : Int32} : Rs L xs (d) 394 3567 ls (.int z :: st) M x = Rs L xs (d) 394 3568 ls (.long z.toInt64 :: st) M x := Rs_next c394_3567 rfl
theorem c394_3568 : qx_code 394 3568 = some (3568, .lcmp, 3569, 0, 0, 0) := by decide +kernel
theorem s394_3568 {L : Nat} {xs : Nat → Int32} {d x : Nat} {M : qxM} {st : List Value} {ls : qxL} {z y : Int64} : Rs L xs (d) 394 3568 ls (.long y :: .long z :: st) M x = Rs L xs (d) 394 3569 ls (.int (lg_cmp z y) :: st) M x := Rs_next c394_3568 rfl
theorem c394_3569 : qx_code 394 3569 = some (3569, .ifCond .eq 5, 3572, 3574, 0, 0) := by decide +kernel
theorem s394_3569 {L : Nat} {xs : Nat → Int32} {d x : Nat} {M : qxM} {st : List Value} {ls : qxL} {z : Int32} : Rs L xs (d) 394 3569 ls (.int z :: st) M x = if z = 0 then Rs L xs (d) 394 3574 ls st M x else Rs L xs (d) 394 3572 ls st M x := Rs_ite c394_3569 rfl
theorem c394_3574 : qx_code 394 3574 = some (3574, .goto 172, 3577, 3746, 0, 0) := by decide +kernel
theorem s394_3574 {L : Nat} {xs : Nat → Int32} {d x : Nat} {M : qxM} {st : List Value} {ls : qxL} : Rs L xs (d) 394 3574 ls st M x = Rs L xs (d) 394 3746 ls st M x := Rs_next c394_3574 rfl
theorem c394_3577 : qx_code 394 3577 = some (3577, .aload_n 1, 3578, 0, 0, 0) := by decide +kernel
theorem s394_3577 {L : Nat} {xs : Nat → Int32} {d x : Nat} {M : qxM} {st : List Value} {a0 a2 a3 a4 a5 a6 a7 a8 : Option Value} {z : Nat} : Rs L xs (d) 394 3577 [a0, some (.ref z), a2, a3, a4, a5, a6, a7, a8] st M x = Rs L xs (d) 394 3578 [a0, some (.ref z), a2, a3, a4, a5, a6, a7, a8] (.ref z :: st) M x := Rs_next c394_3577 rfl
theorem c394_3578 : qx_code 394 3578 = some (3578, .aload_n 3, 3579, 0, 0, 0) := by decide +kernel
theorem s394_3578 {L : Nat} {xs : Nat → Int32} {d x : Nat} {M : qxM} {st : List Value} {a0 a1 a2 a4 a5 a6 a7 a8 : Option Value} {z : Nat} : Rs L xs (d) 394 3578 [a0, a1, a2, some (.ref z), a4, a5, a6, a7, a8] st M x = Rs L xs (d) 394 3579 [a0, a1, a2, some (.ref z), a4, a5, a6, a7, a8] (.ref z :: st) M x := Rs_next c394_3578 rfl
theorem c394_3579 : qx_code 394 3579 = some (3579, .invokestatic 403, 3582, 391, 2, 1511) := by decide +kernel
theorem s394_3579 {L : Nat} {xs : Nat → Int32} {d x : Nat} {M : qxM} {st : List Value} {ls : qxL} {z0 : Nat} {z1 : Nat} (hs : st.length ≤ 4) : Rs L xs (d + 1) 394 3579 ls (.ref z1 :: .ref z0 :: st) M x = (Rs L xs d 391 0 [some (.ref z0), some (.ref z1), none] [] M 0).bind (qx_kn L xs (d + 1) 394 3579 3582 391 ls st x) := by
  have h1 : qx_act L xs (qx_rt 394) (3579, .invokestatic 403, 3582, 391, 2, 1511) ls (.ref z1 :: .ref z0 :: st) M = if 2 ≤ (.ref z1 :: .ref z0 :: st).length ∧ st.length ≤ 4 then some (.inr (.inr (.inr (391, [.ref z0, .ref z1], st)))) else none := rfl
  rw [if_pos ⟨by simp [List.length_cons]; try omega, hs⟩] at h1
  exact Rs_call c394_3579 h1 rfl
theorem c394_3582 : qx_code 394 3582 = some (3582, .istore 6, 3584, 0, 0, 0) := by decide +kernel
theorem s394_3582i {L : Nat} {xs : Nat → Int32} {d x : Nat} {M : qxM} {st : List Value} {a0 a1 a2 a3 a4 a6 a7 a8 : Option Value} {z : Int32} {y : Int32} : Rs L xs (d) 394 3582 [a0, a1, a2, a3, a4, some (.int y), a6, a7, a8] (.int z :: st) M x = Rs L xs (d) 394 3584 [a0, a1, a2, a3, a4, some (.int y), some (.int z), a7, a8] st M x := Rs_next c394_3582 rfl
theorem c394_3584 : qx_code 394 3584 = some (3584, .aload_n 2, 3585, 0, 0, 0) := by decide +kernel
theorem s394_3584 {L : Nat} {xs : Nat → Int32} {d x : Nat} {M : qxM} {st : List Value} {a0 a1 a3 a4 a5 a6 a7 a8 : Option Value} {z : Nat} : Rs L xs (d) 394 3584 [a0, a1, some (.ref z), a3, a4, a5, a6, a7, a8] st M x = Rs L xs (d) 394 3585 [a0, a1, some (.ref z), a3, a4, a5, a6, a7, a8] (.ref z :: st) M x := Rs_next c394_3584 rfl
theorem c394_3585 : qx_code 394 3585 = some (3585, .invokevirtual 405, 3588, 330, 1, 2225) := by decide +kernel
theorem s394_3585 {L : Nat} {xs : Nat → Int32} {d x : Nat} {M : qxM} {st : List Value} {ls : qxL} {t : Nat} (hk : qx_kd t = 18) (hs : st.length ≤ 4) : Rs L xs (d + 1) 394 3585 ls (.ref t :: st) M x = (Rs L xs d 330 0 [some (.ref t)] [] M 0).bind (qx_kn L xs (d + 1) 394 3585 3588 330 ls st x) := by
  have h1 : qx_act L xs (qx_rt 394) (3585, .invokevirtual 405, 3588, 330, 1, 2225) ls (.ref t :: st) M = if 1 ≤ (.ref t :: st).length ∧ st.length ≤ 4 then some (.inr (.inr (.inr (330, [.ref t], st)))) else none := rfl
  rw [if_pos ⟨by simp [List.length_cons]; try omega, hs⟩] at h1
  have h2 := qx_kd_obj (k := 8) (by decide) hk
  exact Rs_call c394_3585 h1 (by rw [show qx_args 330 [.ref t] = decide (qx_sh t = some (.inl 8)) from rfl]; exact decide_eq_true h2)
theorem c394_3588 : qx_code 394 3588 = some (3588, .istore 7, 3590, 0, 0, 0) := by decide +kernel
theorem s394_3588i {L : Nat} {xs : Nat → Int32} {d x : Nat} {M : qxM} {st : List Value} {a0 a1 a2 a3 a4 a5 a7 a8 : Option Value} {z : Int32} {y : Int32} : Rs L xs (d) 394 3588 [a0, a1, a2, a3, a4, a5, some (.int y), a7, a8] (.int z :: st) M x = Rs L xs (d) 394 3590 [a0, a1, a2, a3, a4, a5, some (.int y), some (.int z), a8] st M x := Rs_next c394_3588 rfl
theorem c394_3590 : qx_code 394 3590 = some (3590, .aload_n 2, 3591, 0, 0, 0) := by decide +kernel
theorem s394_3590 {L : Nat} {xs : Nat → Int32} {d x : Nat} {M : qxM} {st : List Value} {a0 a1 a3 a4 a5 a6 a7 a8 : Option Value} {z : Nat} : Rs L xs (d) 394 3590 [a0, a1, some (.ref z), a3, a4, a5, a6, a7, a8] st M x = Rs L xs (d) 394 3591 [a0, a1, some (.ref z), a3, a4, a5, a6, a7, a8] (.ref z :: st) M x := Rs_next c394_3590 rfl
theorem c394_3591 : qx_code 394 3591 = some (3591, .invokevirtual 218, 3594, 177, 1, 1613) := by decide +kernel
theorem s394_3591 {L : Nat} {xs : Nat → Int32} {d x : Nat} {M : qxM} {st : List Value} {ls : qxL} {t : Nat} (hk : qx_kd t = 18) (hs : st.length ≤ 4) : Rs L xs (d + 1) 394 3591 ls (.ref t :: st) M x = (Rs L xs d 177 0 [some (.ref t)] [] M 0).bind (qx_kn L xs (d + 1) 394 3591 3594 177 ls st x) := by
  have h1 : qx_act L xs (qx_rt 394) (3591, .invokevirtual 218, 3594, 177, 1, 1613) ls (.ref t :: st) M = if 1 ≤ (.ref t :: st).length ∧ st.length ≤ 4 then some (.inr (.inr (.inr (177, [.ref t], st)))) else none := rfl
  rw [if_pos ⟨by simp [List.length_cons]; try omega, hs⟩] at h1
  have h2 := qx_kd_obj (k := 8) (by decide) hk
  exact Rs_call c394_3591 h1 (by rw [show qx_args 177 [.ref t] = decide (qx_sh t = some (.inl 8)) from rfl]; exact decide_eq_true h2)
theorem c394_3594 : qx_code 394 3594 = some (3594, .iload 6, 3596, 0, 0, 0) := by decide +kernel
theorem s394_3594 {L : Nat} {xs : Nat → Int32} {d x : Nat} {M : qxM} {st : List Value} {a0 a1 a2 a3 a4 a5 a7 a8 : Option Value} {z : Int32} : Rs L xs (d) 394 3594 [a0, a1, a2, a3, a4, a5, some (.int z), a7, a8] st M x = Rs L xs (d) 394 3596 [a0, a1, a2, a3, a4, a5, some (.int z), a7, a8] (.int z :: st) M x := Rs_next c394_3594 rfl
theorem c394_3596 : qx_code 394 3596 = some (3596, .if_icmp .eq 5, 3599, 3601, 0, 0) := by decide +kernel
theorem s394_3596 {L : Nat} {xs : Nat → Int32} {d x : Nat} {M : qxM} {st : List Value} {ls : qxL} {z y : Int32} : Rs L xs (d) 394 3596 ls (.int y :: .int z :: st) M x = if z = y then Rs L xs (d) 394 3601 ls st M x else Rs L xs (d) 394 3599 ls st M x := Rs_ite c394_3596 rfl
theorem c394_3601 : qx_code 394 3601 = some (3601, .iload 6, 3603, 0, 0, 0) := by decide +kernel
theorem s394_3601 {L : Nat} {xs : Nat → Int32} {d x : Nat} {M : qxM} {st : List Value} {a0 a1 a2 a3 a4 a5 a7 a8 : Option Value} {z : Int32} : Rs L xs (d) 394 3601 [a0, a1, a2, a3, a4, a5, some (.int z), a7, a8] st M x = Rs L xs (d) 394 3603 [a0, a1, a2, a3, a4, a5, some (.int z), a7, a8] (.int z :: st) M x := Rs_next c394_3601 rfl
theorem c394_3603 : qx_code 394 3603 = some (3603, .ifCond .ne 15, 3606, 3618, 0, 0) := by decide +kernel
theorem s394_3603 {L : Nat} {xs : Nat → Int32} {d x : Nat} {M : qxM} {st : List Value} {ls : qxL} {z : Int32} : Rs L xs (d) 394 3603 ls (.int z :: st) M x = if z = 0 then Rs L xs (d) 394 3606 ls st M x else Rs L xs (d) 394 3618 ls st M x := Rs_ite c394_3603 rfl
theorem c394_3606 : qx_code 394 3606 = some (3606, .aload_n 3, 3607, 0, 0, 0) := by decide +kernel
theorem s394_3606 {L : Nat} {xs : Nat → Int32} {d x : Nat} {M : qxM} {st : List Value} {a0 a1 a2 a4 a5 a6 a7 a8 : Option Value} {z : Nat} : Rs L xs (d) 394 3606 [a0, a1, a2, some (.ref z), a4, a5, a6, a7, a8] st M x = Rs L xs (d) 394 3607 [a0, a1, a2, some (.ref z), a4, a5, a6, a7, a8] (.ref z :: st) M x := Rs_next c394_3606 rfl
theorem c394_3607 : qx_code 394 3607 = some (3607, .iconst 0, 3608, 0, 0, 0) := by decide +kernel
theorem s394_3607 {L : Nat} {xs : Nat → Int32} {d x : Nat} {M : qxM} {st : List Value} {ls : qxL} : Rs L xs (d) 394 3607 ls st M x = Rs L xs (d) 394 3608 ls (.int (nI 0) :: st) M x := Rs_next c394_3607 rfl
theorem c394_3608 : qx_code 394 3608 = some (3608, .laload, 3609, 0, 0, 0) := by decide +kernel
theorem s394_3608 {L : Nat} {xs : Nat → Int32} {d x : Nat} {M : qxM} {st : List Value} {ls : qxL} {t : Nat} {j : Int32} (hk : qx_kd t = 4) (hj : qx_ib j (qx_ln t) = true) : Rs L xs (d) 394 3608 ls (.int j :: .ref t :: st) M x = Rs L xs (d) 394 3609 ls (.long (M.2.1 j.toNatClampNeg) :: st) M x := by
  have h1 := qx_kd_row (k := 4) (by decide) hk
  exact Rs_unless (qx_ib_not hj) c394_3608 (by unfold qx_act; dsimp only; rw [h1]; rfl)
theorem c394_3609 : qx_code 394 3609 = some (3609, .iload 7, 3611, 0, 0, 0) := by decide +kernel
theorem s394_3609 {L : Nat} {xs : Nat → Int32} {d x : Nat} {M : qxM} {st : List Value} {a0 a1 a2 a3 a4 a5 a6 a8 : Option Value} {z : Int32} : Rs L xs (d) 394 3609 [a0, a1, a2, a3, a4, a5, a6, some (.int z), a8] st M x = Rs L xs (d) 394 3611 [a0, a1, a2, a3, a4, a5, a6, some (.int z), a8] (.int z :: st) M x := Rs_next c394_3609 rfl
theorem c394_3611 : qx_code 394 3611 = some (3611, .i2l, 3612, 0, 0, 0) := by decide +kernel
theorem s394_3611 {L : Nat} {xs : Nat → Int32} {d x : Nat} {M : qxM} {st : List Value} {ls : qxL} {z : Int32} : Rs L xs (d) 394 3611 ls (.int z :: st) M x = Rs L xs (d) 394 3612 ls (.long z.toInt64 :: st) M x := Rs_next c394_3611 rfl
theorem c394_3612 : qx_code 394 3612 = some (3612, .lcmp, 3613, 0, 0, 0) := by decide +kernel
theorem s394_3612 {L : Nat} {xs : Nat → Int32} {d x : Nat} {M : qxM} {st : List Value} {ls : qxL} {z y : Int64} : Rs L xs (d) 394 3612 ls (.long y :: .long z :: st) M x = Rs L xs (d) 394 3613 ls (.int (lg_cmp z y) :: st) M x := Rs_next c394_3612 rfl
theorem c394_3613 : qx_code 394 3613 = some (3613, .ifCond .eq 5, 3616, 3618, 0, 0) := by decide +kernel
theorem s394_3613 {L : Nat} {xs : Nat → Int32} {d x : Nat} {M : qxM} {st : List Value} {ls : qxL} {z : Int32} : Rs L xs (d) 394 3613 ls (.int z :: st) M x = if z = 0 then Rs L xs (d) 394 3618 ls st M x else Rs L xs (d) 394 3616 ls st M x := Rs_ite c394_3613 rfl
theorem c394_3618 : qx_code 394 3618 = some (3618, .goto 128, 3621, 3746, 0, 0) := by decide +kernel
theorem s394_3618 {L : Nat} {xs : Nat → Int32} {d x : Nat} {M : qxM} {st : List Value} {ls : qxL} : Rs L xs (d) 394 3618 ls st M x = Rs L xs (d) 394 3746 ls st M x := Rs_next c394_3618 rfl
theorem c394_3621 : qx_code 394 3621 = some (3621, .aload_n 1, 3622, 0, 0, 0) := by decide +kernel
theorem s394_3621 {L : Nat} {xs : Nat → Int32} {d x : Nat} {M : qxM} {st : List Value} {a0 a2 a3 a4 a5 a6 a7 a8 : Option Value} {z : Nat} : Rs L xs (d) 394 3621 [a0, some (.ref z), a2, a3, a4, a5, a6, a7, a8] st M x = Rs L xs (d) 394 3622 [a0, some (.ref z), a2, a3, a4, a5, a6, a7, a8] (.ref z :: st) M x := Rs_next c394_3621 rfl
theorem c394_3622 : qx_code 394 3622 = some (3622, .invokevirtual 406, 3625, 156, 1, 439) := by decide +kernel
theorem s394_3622 {L : Nat} {xs : Nat → Int32} {d x : Nat} {M : qxM} {st : List Value} {ls : qxL} {t : Nat} (hk : qx_kd t = 17) (hs : st.length ≤ 4) : Rs L xs (d + 1) 394 3622 ls (.ref t :: st) M x = (Rs L xs d 156 0 [some (.ref t)] [] M 0).bind (qx_kn L xs (d + 1) 394 3622 3625 156 ls st x) := by
  have h1 : qx_act L xs (qx_rt 394) (3622, .invokevirtual 406, 3625, 156, 1, 439) ls (.ref t :: st) M = if 1 ≤ (.ref t :: st).length ∧ st.length ≤ 4 then some (.inr (.inr (.inr (156, [.ref t], st)))) else none := rfl
  rw [if_pos ⟨by simp [List.length_cons]; try omega, hs⟩] at h1
  have h2 := qx_kd_obj (k := 7) (by decide) hk
  exact Rs_call c394_3622 h1 (by rw [show qx_args 156 [.ref t] = decide (qx_sh t = some (.inl 7)) from rfl]; exact decide_eq_true h2)
theorem c394_3625 : qx_code 394 3625 = some (3625, .aload_n 2, 3626, 0, 0, 0) := by decide +kernel
theorem s394_3625 {L : Nat} {xs : Nat → Int32} {d x : Nat} {M : qxM} {st : List Value} {a0 a1 a3 a4 a5 a6 a7 a8 : Option Value} {z : Nat} : Rs L xs (d) 394 3625 [a0, a1, some (.ref z), a3, a4, a5, a6, a7, a8] st M x = Rs L xs (d) 394 3626 [a0, a1, some (.ref z), a3, a4, a5, a6, a7, a8] (.ref z :: st) M x := Rs_next c394_3625 rfl
theorem c394_3626 : qx_code 394 3626 = some (3626, .invokevirtual 409, 3629, 331, 1, 2229) := by decide +kernel
theorem s394_3626 {L : Nat} {xs : Nat → Int32} {d x : Nat} {M : qxM} {st : List Value} {ls : qxL} {t : Nat} (hk : qx_kd t = 18) (hs : st.length ≤ 4) : Rs L xs (d + 1) 394 3626 ls (.ref t :: st) M x = (Rs L xs d 331 0 [some (.ref t)] [] M 0).bind (qx_kn L xs (d + 1) 394 3626 3629 331 ls st x) := by
  have h1 : qx_act L xs (qx_rt 394) (3626, .invokevirtual 409, 3629, 331, 1, 2229) ls (.ref t :: st) M = if 1 ≤ (.ref t :: st).length ∧ st.length ≤ 4 then some (.inr (.inr (.inr (331, [.ref t], st)))) else none := rfl
  rw [if_pos ⟨by simp [List.length_cons]; try omega, hs⟩] at h1
  have h2 := qx_kd_obj (k := 8) (by decide) hk
  exact Rs_call c394_3626 h1 (by rw [show qx_args 331 [.ref t] = decide (qx_sh t = some (.inl 8)) from rfl]; exact decide_eq_true h2)
theorem c394_3629 : qx_code 394 3629 = some (3629, .if_icmp .eq 117, 3632, 3746, 0, 0) := by decide +kernel
theorem s394_3629 {L : Nat} {xs : Nat → Int32} {d x : Nat} {M : qxM} {st : List Value} {ls : qxL} {z y : Int32} : Rs L xs (d) 394 3629 ls (.int y :: .int z :: st) M x = if z = y then Rs L xs (d) 394 3746 ls st M x else Rs L xs (d) 394 3632 ls st M x := Rs_ite c394_3629 rfl
theorem c394_3634 : qx_code 394 3634 = some (3634, .aload_n 1, 3635, 0, 0, 0) := by decide +kernel
theorem s394_3634 {L : Nat} {xs : Nat → Int32} {d x : Nat} {M : qxM} {st : List Value} {a0 a2 a3 a4 a5 a6 a7 a8 : Option Value} {z : Nat} : Rs L xs (d) 394 3634 [a0, some (.ref z), a2, a3, a4, a5, a6, a7, a8] st M x = Rs L xs (d) 394 3635 [a0, some (.ref z), a2, a3, a4, a5, a6, a7, a8] (.ref z :: st) M x := Rs_next c394_3634 rfl
theorem c394_3635 : qx_code 394 3635 = some (3635, .aload_n 0, 3636, 0, 0, 0) := by decide +kernel
theorem s394_3635 {L : Nat} {xs : Nat → Int32} {d x : Nat} {M : qxM} {st : List Value} {a1 a2 a3 a4 a5 a6 a7 a8 : Option Value} {z : Nat} : Rs L xs (d) 394 3635 [some (.ref z), a1, a2, a3, a4, a5, a6, a7, a8] st M x = Rs L xs (d) 394 3636 [some (.ref z), a1, a2, a3, a4, a5, a6, a7, a8] (.ref z :: st) M x := Rs_next c394_3635 rfl
theorem c394_3636 : qx_code 394 3636 = some (3636, .iload 5, 3638, 0, 0, 0) := by decide +kernel
theorem s394_3636 {L : Nat} {xs : Nat → Int32} {d x : Nat} {M : qxM} {st : List Value} {a0 a1 a2 a3 a4 a6 a7 a8 : Option Value} {z : Int32} : Rs L xs (d) 394 3636 [a0, a1, a2, a3, a4, some (.int z), a6, a7, a8] st M x = Rs L xs (d) 394 3638 [a0, a1, a2, a3, a4, some (.int z), a6, a7, a8] (.int z :: st) M x := Rs_next c394_3636 rfl
theorem c394_3638 : qx_code 394 3638 = some (3638, .iconst 1, 3639, 0, 0, 0) := by decide +kernel
theorem s394_3638 {L : Nat} {xs : Nat → Int32} {d x : Nat} {M : qxM} {st : List Value} {ls : qxL} : Rs L xs (d) 394 3638 ls st M x = Rs L xs (d) 394 3639 ls (.int (nI 1) :: st) M x := Rs_next c394_3638 rfl
theorem c394_3639 : qx_code 394 3639 = some (3639, .iadd, 3640, 0, 0, 0) := by decide +kernel
theorem s394_3639 {L : Nat} {xs : Nat → Int32} {d x : Nat} {M : qxM} {st : List Value} {ls : qxL} {z y : Int32} : Rs L xs (d) 394 3639 ls (.int y :: .int z :: st) M x = Rs L xs (d) 394 3640 ls (.int (z + y) :: st) M x := Rs_next c394_3639 rfl
theorem c394_3640 : qx_code 394 3640 = some (3640, .iaload, 3641, 0, 0, 0) := by decide +kernel
theorem s394_3640s {L : Nat} {xs : Nat → Int32} {d x : Nat} {M : qxM} {st : List Value} {ls : qxL} {j : Int32} (hj : qx_ib j L = true) : Rs L xs (d) 394 3640 ls (.int j :: .ref 1 :: st) M x = Rs L xs (d) 394 3641 ls (.int (xs j.toNatClampNeg) :: st) M x := Rs_unless (qx_ib_not hj) c394_3640 rfl
theorem c394_3641 : qx_code 394 3641 = some (3641, .aload_n 3, 3642, 0, 0, 0) := by decide +kernel
theorem s394_3641 {L : Nat} {xs : Nat → Int32} {d x : Nat} {M : qxM} {st : List Value} {a0 a1 a2 a4 a5 a6 a7 a8 : Option Value} {z : Nat} : Rs L xs (d) 394 3641 [a0, a1, a2, some (.ref z), a4, a5, a6, a7, a8] st M x = Rs L xs (d) 394 3642 [a0, a1, a2, some (.ref z), a4, a5, a6, a7, a8] (.ref z :: st) M x := Rs_next c394_3641 rfl
theorem c394_3642 : qx_code 394 3642 = some (3642, .invokestatic 410, 3645, 392, 3, 1519) := by decide +kernel
theorem s394_3642 {L : Nat} {xs : Nat → Int32} {d x : Nat} {M : qxM} {st : List Value} {ls : qxL} {z0 : Nat} {z1 : Int32} {z2 : Nat} (hs : st.length ≤ 4) : Rs L xs (d + 1) 394 3642 ls (.ref z2 :: .int z1 :: .ref z0 :: st) M x = (Rs L xs d 392 0 [some (.ref z0), some (.int z1), some (.ref z2), none] [] M 0).bind (qx_kn L xs (d + 1) 394 3642 3645 392 ls st x) := by
  have h1 : qx_act L xs (qx_rt 394) (3642, .invokestatic 410, 3645, 392, 3, 1519) ls (.ref z2 :: .int z1 :: .ref z0 :: st) M = if 3 ≤ (.ref z2 :: .int z1 :: .ref z0 :: st).length ∧ st.length ≤ 4 then some (.inr (.inr (.inr (392, [.ref z0, .int z1, .ref z2], st)))) else none := rfl
  rw [if_pos ⟨by simp [List.length_cons]; try omega, hs⟩] at h1
  exact Rs_call c394_3642 h1 rfl
theorem c394_3645 : qx_code 394 3645 = some (3645, .istore 6, 3647, 0, 0, 0) := by decide +kernel
theorem s394_3645i {L : Nat} {xs : Nat → Int32} {d x : Nat} {M : qxM} {st : List Value} {a0 a1 a2 a3 a4 a6 a7 a8 : Option Value} {z : Int32} {y : Int32} : Rs L xs (d) 394 3645 [a0, a1, a2, a3, a4, some (.int y), a6, a7, a8] (.int z :: st) M x = Rs L xs (d) 394 3647 [a0, a1, a2, a3, a4, some (.int y), some (.int z), a7, a8] st M x := Rs_next c394_3645 rfl
theorem c394_3647 : qx_code 394 3647 = some (3647, .aload_n 2, 3648, 0, 0, 0) := by decide +kernel
theorem s394_3647 {L : Nat} {xs : Nat → Int32} {d x : Nat} {M : qxM} {st : List Value} {a0 a1 a3 a4 a5 a6 a7 a8 : Option Value} {z : Nat} : Rs L xs (d) 394 3647 [a0, a1, some (.ref z), a3, a4, a5, a6, a7, a8] st M x = Rs L xs (d) 394 3648 [a0, a1, some (.ref z), a3, a4, a5, a6, a7, a8] (.ref z :: st) M x := Rs_next c394_3647 rfl
theorem c394_3648 : qx_code 394 3648 = some (3648, .aload_n 0, 3649, 0, 0, 0) := by decide +kernel
theorem s394_3648 {L : Nat} {xs : Nat → Int32} {d x : Nat} {M : qxM} {st : List Value} {a1 a2 a3 a4 a5 a6 a7 a8 : Option Value} {z : Nat} : Rs L xs (d) 394 3648 [some (.ref z), a1, a2, a3, a4, a5, a6, a7, a8] st M x = Rs L xs (d) 394 3649 [some (.ref z), a1, a2, a3, a4, a5, a6, a7, a8] (.ref z :: st) M x := Rs_next c394_3648 rfl
theorem c394_3649 : qx_code 394 3649 = some (3649, .iload 5, 3651, 0, 0, 0) := by decide +kernel
theorem s394_3649 {L : Nat} {xs : Nat → Int32} {d x : Nat} {M : qxM} {st : List Value} {a0 a1 a2 a3 a4 a6 a7 a8 : Option Value} {z : Int32} : Rs L xs (d) 394 3649 [a0, a1, a2, a3, a4, some (.int z), a6, a7, a8] st M x = Rs L xs (d) 394 3651 [a0, a1, a2, a3, a4, some (.int z), a6, a7, a8] (.int z :: st) M x := Rs_next c394_3649 rfl
theorem c394_3651 : qx_code 394 3651 = some (3651, .iconst 1, 3652, 0, 0, 0) := by decide +kernel
theorem s394_3651 {L : Nat} {xs : Nat → Int32} {d x : Nat} {M : qxM} {st : List Value} {ls : qxL} : Rs L xs (d) 394 3651 ls st M x = Rs L xs (d) 394 3652 ls (.int (nI 1) :: st) M x := Rs_next c394_3651 rfl
theorem c394_3652 : qx_code 394 3652 = some (3652, .iadd, 3653, 0, 0, 0) := by decide +kernel
theorem s394_3652 {L : Nat} {xs : Nat → Int32} {d x : Nat} {M : qxM} {st : List Value} {ls : qxL} {z y : Int32} : Rs L xs (d) 394 3652 ls (.int y :: .int z :: st) M x = Rs L xs (d) 394 3653 ls (.int (z + y) :: st) M x := Rs_next c394_3652 rfl
theorem c394_3653 : qx_code 394 3653 = some (3653, .iaload, 3654, 0, 0, 0) := by decide +kernel
theorem s394_3653s {L : Nat} {xs : Nat → Int32} {d x : Nat} {M : qxM} {st : List Value} {ls : qxL} {j : Int32} (hj : qx_ib j L = true) : Rs L xs (d) 394 3653 ls (.int j :: .ref 1 :: st) M x = Rs L xs (d) 394 3654 ls (.int (xs j.toNatClampNeg) :: st) M x := Rs_unless (qx_ib_not hj) c394_3653 rfl
theorem c394_3654 : qx_code 394 3654 = some (3654, .invokevirtual 412, 3657, 332, 2, 2233) := by decide +kernel
theorem s394_3654 {L : Nat} {xs : Nat → Int32} {d x : Nat} {M : qxM} {st : List Value} {ls : qxL} {t : Nat} {z0 : Int32} (hk : qx_kd t = 18) (hs : st.length ≤ 4) : Rs L xs (d + 1) 394 3654 ls (.int z0 :: .ref t :: st) M x = (Rs L xs d 332 0 [some (.ref t), some (.int z0)] [] M 0).bind (qx_kn L xs (d + 1) 394 3654 3657 332 ls st x) := by
  have h1 : qx_act L xs (qx_rt 394) (3654, .invokevirtual 412, 3657, 332, 2, 2233) ls (.int z0 :: .ref t :: st) M = if 2 ≤ (.int z0 :: .ref t :: st).length ∧ st.length ≤ 4 then some (.inr (.inr (.inr (332, [.ref t, .int z0], st)))) else none := rfl
  rw [if_pos ⟨by simp [List.length_cons]; try omega, hs⟩] at h1
  have h2 := qx_kd_obj (k := 8) (by decide) hk
  exact Rs_call c394_3654 h1 (by rw [show qx_args 332 [.ref t, .int z0] = decide (qx_sh t = some (.inl 8)) from rfl]; exact decide_eq_true h2)
theorem c394_3657 : qx_code 394 3657 = some (3657, .istore 7, 3659, 0, 0, 0) := by decide +kernel
theorem s394_3657i {L : Nat} {xs : Nat → Int32} {d x : Nat} {M : qxM} {st : List Value} {a0 a1 a2 a3 a4 a5 a7 a8 : Option Value} {z : Int32} {y : Int32} : Rs L xs (d) 394 3657 [a0, a1, a2, a3, a4, a5, some (.int y), a7, a8] (.int z :: st) M x = Rs L xs (d) 394 3659 [a0, a1, a2, a3, a4, a5, some (.int y), some (.int z), a8] st M x := Rs_next c394_3657 rfl
theorem c394_3659 : qx_code 394 3659 = some (3659, .aload_n 2, 3660, 0, 0, 0) := by decide +kernel
theorem s394_3659 {L : Nat} {xs : Nat → Int32} {d x : Nat} {M : qxM} {st : List Value} {a0 a1 a3 a4 a5 a6 a7 a8 : Option Value} {z : Nat} : Rs L xs (d) 394 3659 [a0, a1, some (.ref z), a3, a4, a5, a6, a7, a8] st M x = Rs L xs (d) 394 3660 [a0, a1, some (.ref z), a3, a4, a5, a6, a7, a8] (.ref z :: st) M x := Rs_next c394_3659 rfl
theorem c394_3660 : qx_code 394 3660 = some (3660, .invokevirtual 218, 3663, 177, 1, 1613) := by decide +kernel
theorem s394_3660 {L : Nat} {xs : Nat → Int32} {d x : Nat} {M : qxM} {st : List Value} {ls : qxL} {t : Nat} (hk : qx_kd t = 18) (hs : st.length ≤ 4) : Rs L xs (d + 1) 394 3660 ls (.ref t :: st) M x = (Rs L xs d 177 0 [some (.ref t)] [] M 0).bind (qx_kn L xs (d + 1) 394 3660 3663 177 ls st x) := by
  have h1 : qx_act L xs (qx_rt 394) (3660, .invokevirtual 218, 3663, 177, 1, 1613) ls (.ref t :: st) M = if 1 ≤ (.ref t :: st).length ∧ st.length ≤ 4 then some (.inr (.inr (.inr (177, [.ref t], st)))) else none := rfl
  rw [if_pos ⟨by simp [List.length_cons]; try omega, hs⟩] at h1
  have h2 := qx_kd_obj (k := 8) (by decide) hk
  exact Rs_call c394_3660 h1 (by rw [show qx_args 177 [.ref t] = decide (qx_sh t = some (.inl 8)) from rfl]; exact decide_eq_true h2)
theorem c394_3663 : qx_code 394 3663 = some (3663, .iload 6, 3665, 0, 0, 0) := by decide +kernel
theorem s394_3663 {L : Nat} {xs : Nat → Int32} {d x : Nat} {M : qxM} {st : List Value} {a0 a1 a2 a3 a4 a5 a7 a8 : Option Value} {z : Int32} : Rs L xs (d) 394 3663 [a0, a1, a2, a3, a4, a5, some (.int z), a7, a8] st M x = Rs L xs (d) 394 3665 [a0, a1, a2, a3, a4, a5, some (.int z), a7, a8] (.int z :: st) M x := Rs_next c394_3663 rfl
theorem c394_3665 : qx_code 394 3665 = some (3665, .if_icmp .eq 5, 3668, 3670, 0, 0) := by decide +kernel
theorem s394_3665 {L : Nat} {xs : Nat → Int32} {d x : Nat} {M : qxM} {st : List Value} {ls : qxL} {z y : Int32} : Rs L xs (d) 394 3665 ls (.int y :: .int z :: st) M x = if z = y then Rs L xs (d) 394 3670 ls st M x else Rs L xs (d) 394 3668 ls st M x := Rs_ite c394_3665 rfl
theorem c394_3670 : qx_code 394 3670 = some (3670, .iload 6, 3672, 0, 0, 0) := by decide +kernel
theorem s394_3670 {L : Nat} {xs : Nat → Int32} {d x : Nat} {M : qxM} {st : List Value} {a0 a1 a2 a3 a4 a5 a7 a8 : Option Value} {z : Int32} : Rs L xs (d) 394 3670 [a0, a1, a2, a3, a4, a5, some (.int z), a7, a8] st M x = Rs L xs (d) 394 3672 [a0, a1, a2, a3, a4, a5, some (.int z), a7, a8] (.int z :: st) M x := Rs_next c394_3670 rfl
theorem c394_3672 : qx_code 394 3672 = some (3672, .ifCond .ne 15, 3675, 3687, 0, 0) := by decide +kernel
theorem s394_3672 {L : Nat} {xs : Nat → Int32} {d x : Nat} {M : qxM} {st : List Value} {ls : qxL} {z : Int32} : Rs L xs (d) 394 3672 ls (.int z :: st) M x = if z = 0 then Rs L xs (d) 394 3675 ls st M x else Rs L xs (d) 394 3687 ls st M x := Rs_ite c394_3672 rfl
theorem c394_3675 : qx_code 394 3675 = some (3675, .aload_n 3, 3676, 0, 0, 0) := by decide +kernel
theorem s394_3675 {L : Nat} {xs : Nat → Int32} {d x : Nat} {M : qxM} {st : List Value} {a0 a1 a2 a4 a5 a6 a7 a8 : Option Value} {z : Nat} : Rs L xs (d) 394 3675 [a0, a1, a2, some (.ref z), a4, a5, a6, a7, a8] st M x = Rs L xs (d) 394 3676 [a0, a1, a2, some (.ref z), a4, a5, a6, a7, a8] (.ref z :: st) M x := Rs_next c394_3675 rfl
theorem c394_3676 : qx_code 394 3676 = some (3676, .iconst 0, 3677, 0, 0, 0) := by decide +kernel
theorem s394_3676 {L : Nat} {xs : Nat → Int32} {d x : Nat} {M : qxM} {st : List Value} {ls : qxL} : Rs L xs (d) 394 3676 ls st M x = Rs L xs (d) 394 3677 ls (.int (nI 0) :: st) M x := Rs_next c394_3676 rfl
theorem c394_3677 : qx_code 394 3677 = some (3677, .laload, 3678, 0, 0, 0) := by decide +kernel
theorem s394_3677 {L : Nat} {xs : Nat → Int32} {d x : Nat} {M : qxM} {st : List Value} {ls : qxL} {t : Nat} {j : Int32} (hk : qx_kd t = 4) (hj : qx_ib j (qx_ln t) = true) : Rs L xs (d) 394 3677 ls (.int j :: .ref t :: st) M x = Rs L xs (d) 394 3678 ls (.long (M.2.1 j.toNatClampNeg) :: st) M x := by
  have h1 := qx_kd_row (k := 4) (by decide) hk
  exact Rs_unless (qx_ib_not hj) c394_3677 (by unfold qx_act; dsimp only; rw [h1]; rfl)
theorem c394_3678 : qx_code 394 3678 = some (3678, .iload 7, 3680, 0, 0, 0) := by decide +kernel
theorem s394_3678 {L : Nat} {xs : Nat → Int32} {d x : Nat} {M : qxM} {st : List Value} {a0 a1 a2 a3 a4 a5 a6 a8 : Option Value} {z : Int32} : Rs L xs (d) 394 3678 [a0, a1, a2, a3, a4, a5, a6, some (.int z), a8] st M x = Rs L xs (d) 394 3680 [a0, a1, a2, a3, a4, a5, a6, some (.int z), a8] (.int z :: st) M x := Rs_next c394_3678 rfl
theorem c394_3680 : qx_code 394 3680 = some (3680, .i2l, 3681, 0, 0, 0) := by decide +kernel
theorem s394_3680 {L : Nat} {xs : Nat → Int32} {d x : Nat} {M : qxM} {st : List Value} {ls : qxL} {z : Int32} : Rs L xs (d) 394 3680 ls (.int z :: st) M x = Rs L xs (d) 394 3681 ls (.long z.toInt64 :: st) M x := Rs_next c394_3680 rfl
theorem c394_3681 : qx_code 394 3681 = some (3681, .lcmp, 3682, 0, 0, 0) := by decide +kernel
theorem s394_3681 {L : Nat} {xs : Nat → Int32} {d x : Nat} {M : qxM} {st : List Value} {ls : qxL} {z y : Int64} : Rs L xs (d) 394 3681 ls (.long y :: .long z :: st) M x = Rs L xs (d) 394 3682 ls (.int (lg_cmp z y) :: st) M x := Rs_next c394_3681 rfl
theorem c394_3682 : qx_code 394 3682 = some (3682, .ifCond .eq 5, 3685, 3687, 0, 0) := by decide +kernel
theorem s394_3682 {L : Nat} {xs : Nat → Int32} {d x : Nat} {M : qxM} {st : List Value} {ls : qxL} {z : Int32} : Rs L xs (d) 394 3682 ls (.int z :: st) M x = if z = 0 then Rs L xs (d) 394 3687 ls st M x else Rs L xs (d) 394 3685 ls st M x := Rs_ite c394_3682 rfl
theorem c394_3687 : qx_code 394 3687 = some (3687, .goto 59, 3690, 3746, 0, 0) := by decide +kernel
theorem s394_3687 {L : Nat} {xs : Nat → Int32} {d x : Nat} {M : qxM} {st : List Value} {ls : qxL} : Rs L xs (d) 394 3687 ls st M x = Rs L xs (d) 394 3746 ls st M x := Rs_next c394_3687 rfl
theorem c394_3690 : qx_code 394 3690 = some (3690, .aload_n 1, 3691, 0, 0, 0) := by decide +kernel
theorem s394_3690 {L : Nat} {xs : Nat → Int32} {d x : Nat} {M : qxM} {st : List Value} {a0 a2 a3 a4 a5 a6 a7 a8 : Option Value} {z : Nat} : Rs L xs (d) 394 3690 [a0, some (.ref z), a2, a3, a4, a5, a6, a7, a8] st M x = Rs L xs (d) 394 3691 [a0, some (.ref z), a2, a3, a4, a5, a6, a7, a8] (.ref z :: st) M x := Rs_next c394_3690 rfl
theorem c394_3691 : qx_code 394 3691 = some (3691, .aload_n 0, 3692, 0, 0, 0) := by decide +kernel
theorem s394_3691 {L : Nat} {xs : Nat → Int32} {d x : Nat} {M : qxM} {st : List Value} {a1 a2 a3 a4 a5 a6 a7 a8 : Option Value} {z : Nat} : Rs L xs (d) 394 3691 [some (.ref z), a1, a2, a3, a4, a5, a6, a7, a8] st M x = Rs L xs (d) 394 3692 [some (.ref z), a1, a2, a3, a4, a5, a6, a7, a8] (.ref z :: st) M x := Rs_next c394_3691 rfl
theorem c394_3692 : qx_code 394 3692 = some (3692, .iload 5, 3694, 0, 0, 0) := by decide +kernel
theorem s394_3692 {L : Nat} {xs : Nat → Int32} {d x : Nat} {M : qxM} {st : List Value} {a0 a1 a2 a3 a4 a6 a7 a8 : Option Value} {z : Int32} : Rs L xs (d) 394 3692 [a0, a1, a2, a3, a4, some (.int z), a6, a7, a8] st M x = Rs L xs (d) 394 3694 [a0, a1, a2, a3, a4, some (.int z), a6, a7, a8] (.int z :: st) M x := Rs_next c394_3692 rfl
theorem c394_3694 : qx_code 394 3694 = some (3694, .iconst 1, 3695, 0, 0, 0) := by decide +kernel
theorem s394_3694 {L : Nat} {xs : Nat → Int32} {d x : Nat} {M : qxM} {st : List Value} {ls : qxL} : Rs L xs (d) 394 3694 ls st M x = Rs L xs (d) 394 3695 ls (.int (nI 1) :: st) M x := Rs_next c394_3694 rfl
theorem c394_3695 : qx_code 394 3695 = some (3695, .iadd, 3696, 0, 0, 0) := by decide +kernel
theorem s394_3695 {L : Nat} {xs : Nat → Int32} {d x : Nat} {M : qxM} {st : List Value} {ls : qxL} {z y : Int32} : Rs L xs (d) 394 3695 ls (.int y :: .int z :: st) M x = Rs L xs (d) 394 3696 ls (.int (z + y) :: st) M x := Rs_next c394_3695 rfl
theorem c394_3696 : qx_code 394 3696 = some (3696, .iaload, 3697, 0, 0, 0) := by decide +kernel
theorem s394_3696s {L : Nat} {xs : Nat → Int32} {d x : Nat} {M : qxM} {st : List Value} {ls : qxL} {j : Int32} (hj : qx_ib j L = true) : Rs L xs (d) 394 3696 ls (.int j :: .ref 1 :: st) M x = Rs L xs (d) 394 3697 ls (.int (xs j.toNatClampNeg) :: st) M x := Rs_unless (qx_ib_not hj) c394_3696 rfl
theorem c394_3697 : qx_code 394 3697 = some (3697, .aload_n 3, 3698, 0, 0, 0) := by decide +kernel
theorem s394_3697 {L : Nat} {xs : Nat → Int32} {d x : Nat} {M : qxM} {st : List Value} {a0 a1 a2 a4 a5 a6 a7 a8 : Option Value} {z : Nat} : Rs L xs (d) 394 3697 [a0, a1, a2, some (.ref z), a4, a5, a6, a7, a8] st M x = Rs L xs (d) 394 3698 [a0, a1, a2, some (.ref z), a4, a5, a6, a7, a8] (.ref z :: st) M x := Rs_next c394_3697 rfl
theorem c394_3698 : qx_code 394 3698 = some (3698, .invokestatic 413, 3701, 393, 3, 1531) := by decide +kernel
theorem s394_3698 {L : Nat} {xs : Nat → Int32} {d x : Nat} {M : qxM} {st : List Value} {ls : qxL} {z0 : Nat} {z1 : Int32} {z2 : Nat} (hs : st.length ≤ 4) : Rs L xs (d + 1) 394 3698 ls (.ref z2 :: .int z1 :: .ref z0 :: st) M x = (Rs L xs d 393 0 [some (.ref z0), some (.int z1), some (.ref z2), none] [] M 0).bind (qx_kn L xs (d + 1) 394 3698 3701 393 ls st x) := by
  have h1 : qx_act L xs (qx_rt 394) (3698, .invokestatic 413, 3701, 393, 3, 1531) ls (.ref z2 :: .int z1 :: .ref z0 :: st) M = if 3 ≤ (.ref z2 :: .int z1 :: .ref z0 :: st).length ∧ st.length ≤ 4 then some (.inr (.inr (.inr (393, [.ref z0, .int z1, .ref z2], st)))) else none := rfl
  rw [if_pos ⟨by simp [List.length_cons]; try omega, hs⟩] at h1
  exact Rs_call c394_3698 h1 rfl
theorem c394_3701 : qx_code 394 3701 = some (3701, .istore 6, 3703, 0, 0, 0) := by decide +kernel
theorem s394_3701i {L : Nat} {xs : Nat → Int32} {d x : Nat} {M : qxM} {st : List Value} {a0 a1 a2 a3 a4 a6 a7 a8 : Option Value} {z : Int32} {y : Int32} : Rs L xs (d) 394 3701 [a0, a1, a2, a3, a4, some (.int y), a6, a7, a8] (.int z :: st) M x = Rs L xs (d) 394 3703 [a0, a1, a2, a3, a4, some (.int y), some (.int z), a7, a8] st M x := Rs_next c394_3701 rfl
theorem c394_3703 : qx_code 394 3703 = some (3703, .aload_n 2, 3704, 0, 0, 0) := by decide +kernel
theorem s394_3703 {L : Nat} {xs : Nat → Int32} {d x : Nat} {M : qxM} {st : List Value} {a0 a1 a3 a4 a5 a6 a7 a8 : Option Value} {z : Nat} : Rs L xs (d) 394 3703 [a0, a1, some (.ref z), a3, a4, a5, a6, a7, a8] st M x = Rs L xs (d) 394 3704 [a0, a1, some (.ref z), a3, a4, a5, a6, a7, a8] (.ref z :: st) M x := Rs_next c394_3703 rfl
theorem c394_3704 : qx_code 394 3704 = some (3704, .aload_n 0, 3705, 0, 0, 0) := by decide +kernel
theorem s394_3704 {L : Nat} {xs : Nat → Int32} {d x : Nat} {M : qxM} {st : List Value} {a1 a2 a3 a4 a5 a6 a7 a8 : Option Value} {z : Nat} : Rs L xs (d) 394 3704 [some (.ref z), a1, a2, a3, a4, a5, a6, a7, a8] st M x = Rs L xs (d) 394 3705 [some (.ref z), a1, a2, a3, a4, a5, a6, a7, a8] (.ref z :: st) M x := Rs_next c394_3704 rfl
theorem c394_3705 : qx_code 394 3705 = some (3705, .iload 5, 3707, 0, 0, 0) := by decide +kernel
theorem s394_3705 {L : Nat} {xs : Nat → Int32} {d x : Nat} {M : qxM} {st : List Value} {a0 a1 a2 a3 a4 a6 a7 a8 : Option Value} {z : Int32} : Rs L xs (d) 394 3705 [a0, a1, a2, a3, a4, some (.int z), a6, a7, a8] st M x = Rs L xs (d) 394 3707 [a0, a1, a2, a3, a4, some (.int z), a6, a7, a8] (.int z :: st) M x := Rs_next c394_3705 rfl
theorem c394_3707 : qx_code 394 3707 = some (3707, .iconst 1, 3708, 0, 0, 0) := by decide +kernel
theorem s394_3707 {L : Nat} {xs : Nat → Int32} {d x : Nat} {M : qxM} {st : List Value} {ls : qxL} : Rs L xs (d) 394 3707 ls st M x = Rs L xs (d) 394 3708 ls (.int (nI 1) :: st) M x := Rs_next c394_3707 rfl
theorem c394_3708 : qx_code 394 3708 = some (3708, .iadd, 3709, 0, 0, 0) := by decide +kernel
theorem s394_3708 {L : Nat} {xs : Nat → Int32} {d x : Nat} {M : qxM} {st : List Value} {ls : qxL} {z y : Int32} : Rs L xs (d) 394 3708 ls (.int y :: .int z :: st) M x = Rs L xs (d) 394 3709 ls (.int (z + y) :: st) M x := Rs_next c394_3708 rfl
theorem c394_3709 : qx_code 394 3709 = some (3709, .iaload, 3710, 0, 0, 0) := by decide +kernel
theorem s394_3709s {L : Nat} {xs : Nat → Int32} {d x : Nat} {M : qxM} {st : List Value} {ls : qxL} {j : Int32} (hj : qx_ib j L = true) : Rs L xs (d) 394 3709 ls (.int j :: .ref 1 :: st) M x = Rs L xs (d) 394 3710 ls (.int (xs j.toNatClampNeg) :: st) M x := Rs_unless (qx_ib_not hj) c394_3709 rfl
theorem c394_3710 : qx_code 394 3710 = some (3710, .invokevirtual 415, 3713, 333, 2, 2237) := by decide +kernel
theorem s394_3710 {L : Nat} {xs : Nat → Int32} {d x : Nat} {M : qxM} {st : List Value} {ls : qxL} {t : Nat} {z0 : Int32} (hk : qx_kd t = 18) (hs : st.length ≤ 4) : Rs L xs (d + 1) 394 3710 ls (.int z0 :: .ref t :: st) M x = (Rs L xs d 333 0 [some (.ref t), some (.int z0), none] [] M 0).bind (qx_kn L xs (d + 1) 394 3710 3713 333 ls st x) := by
  have h1 : qx_act L xs (qx_rt 394) (3710, .invokevirtual 415, 3713, 333, 2, 2237) ls (.int z0 :: .ref t :: st) M = if 2 ≤ (.int z0 :: .ref t :: st).length ∧ st.length ≤ 4 then some (.inr (.inr (.inr (333, [.ref t, .int z0], st)))) else none := rfl
  rw [if_pos ⟨by simp [List.length_cons]; try omega, hs⟩] at h1
  have h2 := qx_kd_obj (k := 8) (by decide) hk
  exact Rs_call c394_3710 h1 (by rw [show qx_args 333 [.ref t, .int z0] = decide (qx_sh t = some (.inl 8)) from rfl]; exact decide_eq_true h2)
theorem c394_3713 : qx_code 394 3713 = some (3713, .istore 7, 3715, 0, 0, 0) := by decide +kernel
theorem s394_3713i {L : Nat} {xs : Nat → Int32} {d x : Nat} {M : qxM} {st : List Value} {a0 a1 a2 a3 a4 a5 a7 a8 : Option Value} {z : Int32} {y : Int32} : Rs L xs (d) 394 3713 [a0, a1, a2, a3, a4, a5, some (.int y), a7, a8] (.int z :: st) M x = Rs L xs (d) 394 3715 [a0, a1, a2, a3, a4, a5, some (.int y), some (.int z), a8] st M x := Rs_next c394_3713 rfl
theorem c394_3715 : qx_code 394 3715 = some (3715, .aload_n 2, 3716, 0, 0, 0) := by decide +kernel
theorem s394_3715 {L : Nat} {xs : Nat → Int32} {d x : Nat} {M : qxM} {st : List Value} {a0 a1 a3 a4 a5 a6 a7 a8 : Option Value} {z : Nat} : Rs L xs (d) 394 3715 [a0, a1, some (.ref z), a3, a4, a5, a6, a7, a8] st M x = Rs L xs (d) 394 3716 [a0, a1, some (.ref z), a3, a4, a5, a6, a7, a8] (.ref z :: st) M x := Rs_next c394_3715 rfl
theorem c394_3716 : qx_code 394 3716 = some (3716, .invokevirtual 218, 3719, 177, 1, 1613) := by decide +kernel
theorem s394_3716 {L : Nat} {xs : Nat → Int32} {d x : Nat} {M : qxM} {st : List Value} {ls : qxL} {t : Nat} (hk : qx_kd t = 18) (hs : st.length ≤ 4) : Rs L xs (d + 1) 394 3716 ls (.ref t :: st) M x = (Rs L xs d 177 0 [some (.ref t)] [] M 0).bind (qx_kn L xs (d + 1) 394 3716 3719 177 ls st x) := by
  have h1 : qx_act L xs (qx_rt 394) (3716, .invokevirtual 218, 3719, 177, 1, 1613) ls (.ref t :: st) M = if 1 ≤ (.ref t :: st).length ∧ st.length ≤ 4 then some (.inr (.inr (.inr (177, [.ref t], st)))) else none := rfl
  rw [if_pos ⟨by simp [List.length_cons]; try omega, hs⟩] at h1
  have h2 := qx_kd_obj (k := 8) (by decide) hk
  exact Rs_call c394_3716 h1 (by rw [show qx_args 177 [.ref t] = decide (qx_sh t = some (.inl 8)) from rfl]; exact decide_eq_true h2)
theorem c394_3719 : qx_code 394 3719 = some (3719, .iload 6, 3721, 0, 0, 0) := by decide +kernel
theorem s394_3719 {L : Nat} {xs : Nat → Int32} {d x : Nat} {M : qxM} {st : List Value} {a0 a1 a2 a3 a4 a5 a7 a8 : Option Value} {z : Int32} : Rs L xs (d) 394 3719 [a0, a1, a2, a3, a4, a5, some (.int z), a7, a8] st M x = Rs L xs (d) 394 3721 [a0, a1, a2, a3, a4, a5, some (.int z), a7, a8] (.int z :: st) M x := Rs_next c394_3719 rfl
theorem c394_3721 : qx_code 394 3721 = some (3721, .if_icmp .eq 5, 3724, 3726, 0, 0) := by decide +kernel
theorem s394_3721 {L : Nat} {xs : Nat → Int32} {d x : Nat} {M : qxM} {st : List Value} {ls : qxL} {z y : Int32} : Rs L xs (d) 394 3721 ls (.int y :: .int z :: st) M x = if z = y then Rs L xs (d) 394 3726 ls st M x else Rs L xs (d) 394 3724 ls st M x := Rs_ite c394_3721 rfl
theorem c394_3726 : qx_code 394 3726 = some (3726, .iload 6, 3728, 0, 0, 0) := by decide +kernel
theorem s394_3726 {L : Nat} {xs : Nat → Int32} {d x : Nat} {M : qxM} {st : List Value} {a0 a1 a2 a3 a4 a5 a7 a8 : Option Value} {z : Int32} : Rs L xs (d) 394 3726 [a0, a1, a2, a3, a4, a5, some (.int z), a7, a8] st M x = Rs L xs (d) 394 3728 [a0, a1, a2, a3, a4, a5, some (.int z), a7, a8] (.int z :: st) M x := Rs_next c394_3726 rfl
theorem c394_3728 : qx_code 394 3728 = some (3728, .ifCond .ne 15, 3731, 3743, 0, 0) := by decide +kernel
theorem s394_3728 {L : Nat} {xs : Nat → Int32} {d x : Nat} {M : qxM} {st : List Value} {ls : qxL} {z : Int32} : Rs L xs (d) 394 3728 ls (.int z :: st) M x = if z = 0 then Rs L xs (d) 394 3731 ls st M x else Rs L xs (d) 394 3743 ls st M x := Rs_ite c394_3728 rfl
theorem c394_3731 : qx_code 394 3731 = some (3731, .aload_n 3, 3732, 0, 0, 0) := by decide +kernel
theorem s394_3731 {L : Nat} {xs : Nat → Int32} {d x : Nat} {M : qxM} {st : List Value} {a0 a1 a2 a4 a5 a6 a7 a8 : Option Value} {z : Nat} : Rs L xs (d) 394 3731 [a0, a1, a2, some (.ref z), a4, a5, a6, a7, a8] st M x = Rs L xs (d) 394 3732 [a0, a1, a2, some (.ref z), a4, a5, a6, a7, a8] (.ref z :: st) M x := Rs_next c394_3731 rfl
theorem c394_3732 : qx_code 394 3732 = some (3732, .iconst 0, 3733, 0, 0, 0) := by decide +kernel
theorem s394_3732 {L : Nat} {xs : Nat → Int32} {d x : Nat} {M : qxM} {st : List Value} {ls : qxL} : Rs L xs (d) 394 3732 ls st M x = Rs L xs (d) 394 3733 ls (.int (nI 0) :: st) M x := Rs_next c394_3732 rfl
theorem c394_3733 : qx_code 394 3733 = some (3733, .laload, 3734, 0, 0, 0) := by decide +kernel
theorem s394_3733 {L : Nat} {xs : Nat → Int32} {d x : Nat} {M : qxM} {st : List Value} {ls : qxL} {t : Nat} {j : Int32} (hk : qx_kd t = 4) (hj : qx_ib j (qx_ln t) = true) : Rs L xs (d) 394 3733 ls (.int j :: .ref t :: st) M x = Rs L xs (d) 394 3734 ls (.long (M.2.1 j.toNatClampNeg) :: st) M x := by
  have h1 := qx_kd_row (k := 4) (by decide) hk
  exact Rs_unless (qx_ib_not hj) c394_3733 (by unfold qx_act; dsimp only; rw [h1]; rfl)
theorem c394_3734 : qx_code 394 3734 = some (3734, .iload 7, 3736, 0, 0, 0) := by decide +kernel
theorem s394_3734 {L : Nat} {xs : Nat → Int32} {d x : Nat} {M : qxM} {st : List Value} {a0 a1 a2 a3 a4 a5 a6 a8 : Option Value} {z : Int32} : Rs L xs (d) 394 3734 [a0, a1, a2, a3, a4, a5, a6, some (.int z), a8] st M x = Rs L xs (d) 394 3736 [a0, a1, a2, a3, a4, a5, a6, some (.int z), a8] (.int z :: st) M x := Rs_next c394_3734 rfl
theorem c394_3736 : qx_code 394 3736 = some (3736, .i2l, 3737, 0, 0, 0) := by decide +kernel
theorem s394_3736 {L : Nat} {xs : Nat → Int32} {d x : Nat} {M : qxM} {st : List Value} {ls : qxL} {z : Int32} : Rs L xs (d) 394 3736 ls (.int z :: st) M x = Rs L xs (d) 394 3737 ls (.long z.toInt64 :: st) M x := Rs_next c394_3736 rfl
theorem c394_3737 : qx_code 394 3737 = some (3737, .lcmp, 3738, 0, 0, 0) := by decide +kernel
theorem s394_3737 {L : Nat} {xs : Nat → Int32} {d x : Nat} {M : qxM} {st : List Value} {ls : qxL} {z y : Int64} : Rs L xs (d) 394 3737 ls (.long y :: .long z :: st) M x = Rs L xs (d) 394 3738 ls (.int (lg_cmp z y) :: st) M x := Rs_next c394_3737 rfl
theorem c394_3738 : qx_code 394 3738 = some (3738, .ifCond .eq 5, 3741, 3743, 0, 0) := by decide +kernel
theorem s394_3738 {L : Nat} {xs : Nat → Int32} {d x : Nat} {M : qxM} {st : List Value} {ls : qxL} {z : Int32} : Rs L xs (d) 394 3738 ls (.int z :: st) M x = if z = 0 then Rs L xs (d) 394 3743 ls st M x else Rs L xs (d) 394 3741 ls st M x := Rs_ite c394_3738 rfl
theorem c394_3743 : qx_code 394 3743 = some (3743, .goto 3, 3746, 3746, 0, 0) := by decide +kernel
theorem s394_3743 {L : Nat} {xs : Nat → Int32} {d x : Nat} {M : qxM} {st : List Value} {ls : qxL} : Rs L xs (d) 394 3743 ls st M x = Rs L xs (d) 394 3746 ls st M x := Rs_next c394_3743 rfl
theorem c394_3746 : qx_code 394 3746 = some (3746, .iinc 5 6, 3749, 0, 0, 0) := by decide +kernel
theorem s394_3746r {L : Nat} {xs : Nat → Int32} {d x : Nat} {M : qxM} {st : List Value} {a0 a1 a2 a3 a6 a7 a8 : Option Value} {z : Int32} {y : Nat} : Rs L xs (d) 394 3746 [a0, a1, a2, a3, some (.ref y), some (.int z), a6, a7, a8] st M x = Rs L xs (d) 394 3749 [a0, a1, a2, a3, some (.ref y), some (.int (z + (nI 6))), a6, a7, a8] st M x := Rs_next c394_3746 rfl
theorem c394_3749 : qx_code 394 3749 = some (3749, .goto (-3721), 3752, 28, 0, 0) := by decide +kernel
theorem s394_3749 {L : Nat} {xs : Nat → Int32} {d x : Nat} {M : qxM} {st : List Value} {ls : qxL} : Rs L xs (d) 394 3749 ls st M x = Rs L xs (d) 394 28 ls st M x := Rs_next c394_3749 rfl
theorem c394_3752 : qx_code 394 3752 = some (3752, .iconst 1, 3753, 0, 0, 0) := by decide +kernel
theorem s394_3752 {L : Nat} {xs : Nat → Int32} {d x : Nat} {M : qxM} {st : List Value} {ls : qxL} : Rs L xs (d) 394 3752 ls st M x = Rs L xs (d) 394 3753 ls (.int (nI 1) :: st) M x := Rs_next c394_3752 rfl
theorem c394_3753 : qx_code 394 3753 = some (3753, .ireturn, 3754, 0, 0, 0) := by decide +kernel
theorem s394_3753 {L : Nat} {xs : Nat → Int32} {d x : Nat} {M : qxM} {ls : qxL} {z : Int32} (h01 : z = 0 ∨ z = 1) : Rs L xs (d) 394 3753 ls [.int z] M x = some (.inl (some (.int z)), M, x) := Rs_retw h01 c394_3753 rfl
