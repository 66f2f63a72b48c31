/-! Steps of the law. -/
theorem c394_1096 : qx_code 394 1096 = some (1096, .goto 2650, 1099, 3746, 0, 0) := by decide +kernel
theorem s394_1096 {L : Nat} {xs : Nat → Int32} {d x : Nat} {M : qxM} {st : List Value} {ls : qxL} : Rs L xs (d) 394 1096 ls st M x = Rs L xs (d) 394 3746 ls st M x := Rs_next c394_1096 rfl
theorem c394_1099 : qx_code 394 1099 = some (1099, .aload_n 1, 1100, 0, 0, 0) := by decide +kernel
theorem s394_1099 {L : Nat} {xs : Nat → Int32} {d x : Nat} {M : qxM} {st : List Value} {a0 a2 a3 a4 a5 a6 a7 a8 : Option Value} {z : Nat} : Rs L xs (d) 394 1099 [a0, some (.ref z), a2, a3, a4, a5, a6, a7, a8] st M x = Rs L xs (d) 394 1100 [a0, some (.ref z), a2, a3, a4, a5, a6, a7, a8] (.ref z :: st) M x := Rs_next c394_1099 rfl
theorem c394_1100 : qx_code 394 1100 = some (1100, .aload_n 0, 1101, 0, 0, 0) := by decide +kernel
theorem s394_1100 {L : Nat} {xs : Nat → Int32} {d x : Nat} {M : qxM} {st : List Value} {a1 a2 a3 a4 a5 a6 a7 a8 : Option Value} {z : Nat} : Rs L xs (d) 394 1100 [some (.ref z), a1, a2, a3, a4, a5, a6, a7, a8] st M x = Rs L xs (d) 394 1101 [some (.ref z), a1, a2, a3, a4, a5, a6, a7, a8] (.ref z :: st) M x := Rs_next c394_1100 rfl
theorem c394_1101 : qx_code 394 1101 = some (1101, .iload 5, 1103, 0, 0, 0) := by decide +kernel
theorem s394_1101 {L : Nat} {xs : Nat → Int32} {d x : Nat} {M : qxM} {st : List Value} {a0 a1 a2 a3 a4 a6 a7 a8 : Option Value} {z : Int32} : Rs L xs (d) 394 1101 [a0, a1, a2, a3, a4, some (.int z), a6, a7, a8] st M x = Rs L xs (d) 394 1103 [a0, a1, a2, a3, a4, some (.int z), a6, a7, a8] (.int z :: st) M x := Rs_next c394_1101 rfl
theorem c394_1103 : qx_code 394 1103 = some (1103, .iconst 1, 1104, 0, 0, 0) := by decide +kernel
theorem s394_1103 {L : Nat} {xs : Nat → Int32} {d x : Nat} {M : qxM} {st : List Value} {ls : qxL} : Rs L xs (d) 394 1103 ls st M x = Rs L xs (d) 394 1104 ls (.int (nI 1) :: st) M x := Rs_next c394_1103 rfl
theorem c394_1104 : qx_code 394 1104 = some (1104, .iadd, 1105, 0, 0, 0) := by decide +kernel
theorem s394_1104 {L : Nat} {xs : Nat → Int32} {d x : Nat} {M : qxM} {st : List Value} {ls : qxL} {z y : Int32} : Rs L xs (d) 394 1104 ls (.int y :: .int z :: st) M x = Rs L xs (d) 394 1105 ls (.int (z + y) :: st) M x := Rs_next c394_1104 rfl
theorem c394_1105 : qx_code 394 1105 = some (1105, .iaload, 1106, 0, 0, 0) := by decide +kernel
theorem s394_1105s {L : Nat} {xs : Nat → Int32} {d x : Nat} {M : qxM} {st : List Value} {ls : qxL} {j : Int32} (hj : qx_ib j L = true) : Rs L xs (d) 394 1105 ls (.int j :: .ref 1 :: st) M x = Rs L xs (d) 394 1106 ls (.int (xs j.toNatClampNeg) :: st) M x := Rs_unless (qx_ib_not hj) c394_1105 rfl
theorem c394_1106 : qx_code 394 1106 = some (1106, .aload_n 0, 1107, 0, 0, 0) := by decide +kernel
theorem s394_1106 {L : Nat} {xs : Nat → Int32} {d x : Nat} {M : qxM} {st : List Value} {a1 a2 a3 a4 a5 a6 a7 a8 : Option Value} {z : Nat} : Rs L xs (d) 394 1106 [some (.ref z), a1, a2, a3, a4, a5, a6, a7, a8] st M x = Rs L xs (d) 394 1107 [some (.ref z), a1, a2, a3, a4, a5, a6, a7, a8] (.ref z :: st) M x := Rs_next c394_1106 rfl
theorem c394_1107 : qx_code 394 1107 = some (1107, .iload 5, 1109, 0, 0, 0) := by decide +kernel
theorem s394_1107 {L : Nat} {xs : Nat → Int32} {d x : Nat} {M : qxM} {st : List Value} {a0 a1 a2 a3 a4 a6 a7 a8 : Option Value} {z : Int32} : Rs L xs (d) 394 1107 [a0, a1, a2, a3, a4, some (.int z), a6, a7, a8] st M x = Rs L xs (d) 394 1109 [a0, a1, a2, a3, a4, some (.int z), a6, a7, a8] (.int z :: st) M x := Rs_next c394_1107 rfl
theorem c394_1109 : qx_code 394 1109 = some (1109, .iconst 2, 1110, 0, 0, 0) := by decide +kernel
theorem s394_1109 {L : Nat} {xs : Nat → Int32} {d x : Nat} {M : qxM} {st : List Value} {ls : qxL} : Rs L xs (d) 394 1109 ls st M x = Rs L xs (d) 394 1110 ls (.int (nI 2) :: st) M x := Rs_next c394_1109 rfl
theorem c394_1110 : qx_code 394 1110 = some (1110, .iadd, 1111, 0, 0, 0) := by decide +kernel
theorem s394_1110 {L : Nat} {xs : Nat → Int32} {d x : Nat} {M : qxM} {st : List Value} {ls : qxL} {z y : Int32} : Rs L xs (d) 394 1110 ls (.int y :: .int z :: st) M x = Rs L xs (d) 394 1111 ls (.int (z + y) :: st) M x := Rs_next c394_1110 rfl
theorem c394_1111 : qx_code 394 1111 = some (1111, .iaload, 1112, 0, 0, 0) := by decide +kernel
theorem s394_1111s {L : Nat} {xs : Nat → Int32} {d x : Nat} {M : qxM} {st : List Value} {ls : qxL} {j : Int32} (hj : qx_ib j L = true) : Rs L xs (d) 394 1111 ls (.int j :: .ref 1 :: st) M x = Rs L xs (d) 394 1112 ls (.int (xs j.toNatClampNeg) :: st) M x := Rs_unless (qx_ib_not hj) c394_1111 rfl
theorem c394_1112 : qx_code 394 1112 = some (1112, .ifCond .eq 7, 1115, 1119, 0, 0) := by decide +kernel
theorem s394_1112 {L : Nat} {xs : Nat → Int32} {d x : Nat} {M : qxM} {st : List Value} {ls : qxL} {z : Int32} : Rs L xs (d) 394 1112 ls (.int z :: st) M x = if z = 0 then Rs L xs (d) 394 1119 ls st M x else Rs L xs (d) 394 1115 ls st M x := Rs_ite c394_1112 rfl
theorem c394_1115 : qx_code 394 1115 = some (1115, .iconst 1, 1116, 0, 0, 0) := by decide +kernel
theorem s394_1115 {L : Nat} {xs : Nat → Int32} {d x : Nat} {M : qxM} {st : List Value} {ls : qxL} : Rs L xs (d) 394 1115 ls st M x = Rs L xs (d) 394 1116 ls (.int (nI 1) :: st) M x := Rs_next c394_1115 rfl
theorem c394_1116 : qx_code 394 1116 = some (1116, .goto 4, 1119, 1120, 0, 0) := by decide +kernel
theorem s394_1116 {L : Nat} {xs : Nat → Int32} {d x : Nat} {M : qxM} {st : List Value} {ls : qxL} : Rs L xs (d) 394 1116 ls st M x = Rs L xs (d) 394 1120 ls st M x := Rs_next c394_1116 rfl
theorem c394_1119 : qx_code 394 1119 = some (1119, .iconst 0, 1120, 0, 0, 0) := by decide +kernel
theorem s394_1119 {L : Nat} {xs : Nat → Int32} {d x : Nat} {M : qxM} {st : List Value} {ls : qxL} : Rs L xs (d) 394 1119 ls st M x = Rs L xs (d) 394 1120 ls (.int (nI 0) :: st) M x := Rs_next c394_1119 rfl
theorem c394_1120 : qx_code 394 1120 = some (1120, .aload_n 3, 1121, 0, 0, 0) := by decide +kernel
theorem s394_1120 {L : Nat} {xs : Nat → Int32} {d x : Nat} {M : qxM} {st : List Value} {a0 a1 a2 a4 a5 a6 a7 a8 : Option Value} {z : Nat} : Rs L xs (d) 394 1120 [a0, a1, a2, some (.ref z), a4, a5, a6, a7, a8] st M x = Rs L xs (d) 394 1121 [a0, a1, a2, some (.ref z), a4, a5, a6, a7, a8] (.ref z :: st) M x := Rs_next c394_1120 rfl
theorem c394_1121 : qx_code 394 1121 = some (1121, .invokestatic 264, 1124, 346, 4, 901) := by decide +kernel
theorem s394_1121 {L : Nat} {xs : Nat → Int32} {d x : Nat} {M : qxM} {st : List Value} {ls : qxL} {z0 : Nat} {z1 : Int32} {z2 : Int32} {z3 : Nat} (hs : st.length ≤ 4) : Rs L xs (d + 1) 394 1121 ls (.ref z3 :: .int z2 :: .int z1 :: .ref z0 :: st) M x = (Rs L xs d 346 0 [some (.ref z0), some (.int z1), some (.int z2), some (.ref z3), none] [] M 0).bind (qx_kn L xs (d + 1) 394 1121 1124 346 ls st x) := by
  have h1 : qx_act L xs (qx_rt 394) (1121, .invokestatic 264, 1124, 346, 4, 901) ls (.ref z3 :: .int z2 :: .int z1 :: .ref z0 :: st) M = if 4 ≤ (.ref z3 :: .int z2 :: .int z1 :: .ref z0 :: st).length ∧ st.length ≤ 4 then some (.inr (.inr (.inr (346, [.ref z0, .int z1, .int z2, .ref z3], st)))) else none := rfl
  rw [if_pos ⟨by simp [List.length_cons]; try omega, hs⟩] at h1
  exact Rs_call c394_1121 h1 rfl
theorem c394_1124 : qx_code 394 1124 = some (1124, .istore 6, 1126, 0, 0, 0) := by decide +kernel
theorem s394_1124i {L : Nat} {xs : Nat → Int32} {d x : Nat} {M : qxM} {st : List Value} {a0 a1 a2 a3 a4 a6 a7 a8 : Option Value} {z : Int32} {y : Int32} : Rs L xs (d) 394 1124 [a0, a1, a2, a3, a4, some (.int y), a6, a7, a8] (.int z :: st) M x = Rs L xs (d) 394 1126 [a0, a1, a2, a3, a4, some (.int y), some (.int z), a7, a8] st M x := Rs_next c394_1124 rfl
theorem c394_1126 : qx_code 394 1126 = some (1126, .aload_n 2, 1127, 0, 0, 0) := by decide +kernel
theorem s394_1126 {L : Nat} {xs : Nat → Int32} {d x : Nat} {M : qxM} {st : List Value} {a0 a1 a3 a4 a5 a6 a7 a8 : Option Value} {z : Nat} : Rs L xs (d) 394 1126 [a0, a1, some (.ref z), a3, a4, a5, a6, a7, a8] st M x = Rs L xs (d) 394 1127 [a0, a1, some (.ref z), a3, a4, a5, a6, a7, a8] (.ref z :: st) M x := Rs_next c394_1126 rfl
theorem c394_1127 : qx_code 394 1127 = some (1127, .aload_n 0, 1128, 0, 0, 0) := by decide +kernel
theorem s394_1127 {L : Nat} {xs : Nat → Int32} {d x : Nat} {M : qxM} {st : List Value} {a1 a2 a3 a4 a5 a6 a7 a8 : Option Value} {z : Nat} : Rs L xs (d) 394 1127 [some (.ref z), a1, a2, a3, a4, a5, a6, a7, a8] st M x = Rs L xs (d) 394 1128 [some (.ref z), a1, a2, a3, a4, a5, a6, a7, a8] (.ref z :: st) M x := Rs_next c394_1127 rfl
theorem c394_1128 : qx_code 394 1128 = some (1128, .iload 5, 1130, 0, 0, 0) := by decide +kernel
theorem s394_1128 {L : Nat} {xs : Nat → Int32} {d x : Nat} {M : qxM} {st : List Value} {a0 a1 a2 a3 a4 a6 a7 a8 : Option Value} {z : Int32} : Rs L xs (d) 394 1128 [a0, a1, a2, a3, a4, some (.int z), a6, a7, a8] st M x = Rs L xs (d) 394 1130 [a0, a1, a2, a3, a4, some (.int z), a6, a7, a8] (.int z :: st) M x := Rs_next c394_1128 rfl
theorem c394_1130 : qx_code 394 1130 = some (1130, .iconst 1, 1131, 0, 0, 0) := by decide +kernel
theorem s394_1130 {L : Nat} {xs : Nat → Int32} {d x : Nat} {M : qxM} {st : List Value} {ls : qxL} : Rs L xs (d) 394 1130 ls st M x = Rs L xs (d) 394 1131 ls (.int (nI 1) :: st) M x := Rs_next c394_1130 rfl
theorem c394_1131 : qx_code 394 1131 = some (1131, .iadd, 1132, 0, 0, 0) := by decide +kernel
theorem s394_1131 {L : Nat} {xs : Nat → Int32} {d x : Nat} {M : qxM} {st : List Value} {ls : qxL} {z y : Int32} : Rs L xs (d) 394 1131 ls (.int y :: .int z :: st) M x = Rs L xs (d) 394 1132 ls (.int (z + y) :: st) M x := Rs_next c394_1131 rfl
theorem c394_1132 : qx_code 394 1132 = some (1132, .iaload, 1133, 0, 0, 0) := by decide +kernel
theorem s394_1132s {L : Nat} {xs : Nat → Int32} {d x : Nat} {M : qxM} {st : List Value} {ls : qxL} {j : Int32} (hj : qx_ib j L = true) : Rs L xs (d) 394 1132 ls (.int j :: .ref 1 :: st) M x = Rs L xs (d) 394 1133 ls (.int (xs j.toNatClampNeg) :: st) M x := Rs_unless (qx_ib_not hj) c394_1132 rfl
theorem c394_1133 : qx_code 394 1133 = some (1133, .aload_n 0, 1134, 0, 0, 0) := by decide +kernel
theorem s394_1133 {L : Nat} {xs : Nat → Int32} {d x : Nat} {M : qxM} {st : List Value} {a1 a2 a3 a4 a5 a6 a7 a8 : Option Value} {z : Nat} : Rs L xs (d) 394 1133 [some (.ref z), a1, a2, a3, a4, a5, a6, a7, a8] st M x = Rs L xs (d) 394 1134 [some (.ref z), a1, a2, a3, a4, a5, a6, a7, a8] (.ref z :: st) M x := Rs_next c394_1133 rfl
theorem c394_1134 : qx_code 394 1134 = some (1134, .iload 5, 1136, 0, 0, 0) := by decide +kernel
theorem s394_1134 {L : Nat} {xs : Nat → Int32} {d x : Nat} {M : qxM} {st : List Value} {a0 a1 a2 a3 a4 a6 a7 a8 : Option Value} {z : Int32} : Rs L xs (d) 394 1134 [a0, a1, a2, a3, a4, some (.int z), a6, a7, a8] st M x = Rs L xs (d) 394 1136 [a0, a1, a2, a3, a4, some (.int z), a6, a7, a8] (.int z :: st) M x := Rs_next c394_1134 rfl
theorem c394_1136 : qx_code 394 1136 = some (1136, .iconst 2, 1137, 0, 0, 0) := by decide +kernel
theorem s394_1136 {L : Nat} {xs : Nat → Int32} {d x : Nat} {M : qxM} {st : List Value} {ls : qxL} : Rs L xs (d) 394 1136 ls st M x = Rs L xs (d) 394 1137 ls (.int (nI 2) :: st) M x := Rs_next c394_1136 rfl
theorem c394_1137 : qx_code 394 1137 = some (1137, .iadd, 1138, 0, 0, 0) := by decide +kernel
theorem s394_1137 {L : Nat} {xs : Nat → Int32} {d x : Nat} {M : qxM} {st : List Value} {ls : qxL} {z y : Int32} : Rs L xs (d) 394 1137 ls (.int y :: .int z :: st) M x = Rs L xs (d) 394 1138 ls (.int (z + y) :: st) M x := Rs_next c394_1137 rfl
theorem c394_1138 : qx_code 394 1138 = some (1138, .iaload, 1139, 0, 0, 0) := by decide +kernel
theorem s394_1138s {L : Nat} {xs : Nat → Int32} {d x : Nat} {M : qxM} {st : List Value} {ls : qxL} {j : Int32} (hj : qx_ib j L = true) : Rs L xs (d) 394 1138 ls (.int j :: .ref 1 :: st) M x = Rs L xs (d) 394 1139 ls (.int (xs j.toNatClampNeg) :: st) M x := Rs_unless (qx_ib_not hj) c394_1138 rfl
theorem c394_1139 : qx_code 394 1139 = some (1139, .ifCond .eq 7, 1142, 1146, 0, 0) := by decide +kernel
theorem s394_1139 {L : Nat} {xs : Nat → Int32} {d x : Nat} {M : qxM} {st : List Value} {ls : qxL} {z : Int32} : Rs L xs (d) 394 1139 ls (.int z :: st) M x = if z = 0 then Rs L xs (d) 394 1146 ls st M x else Rs L xs (d) 394 1142 ls st M x := Rs_ite c394_1139 rfl
theorem c394_1142 : qx_code 394 1142 = some (1142, .iconst 1, 1143, 0, 0, 0) := by decide +kernel
theorem s394_1142 {L : Nat} {xs : Nat → Int32} {d x : Nat} {M : qxM} {st : List Value} {ls : qxL} : Rs L xs (d) 394 1142 ls st M x = Rs L xs (d) 394 1143 ls (.int (nI 1) :: st) M x := Rs_next c394_1142 rfl
theorem c394_1143 : qx_code 394 1143 = some (1143, .goto 4, 1146, 1147, 0, 0) := by decide +kernel
theorem s394_1143 {L : Nat} {xs : Nat → Int32} {d x : Nat} {M : qxM} {st : List Value} {ls : qxL} : Rs L xs (d) 394 1143 ls st M x = Rs L xs (d) 394 1147 ls st M x := Rs_next c394_1143 rfl
theorem c394_1146 : qx_code 394 1146 = some (1146, .iconst 0, 1147, 0, 0, 0) := by decide +kernel
theorem s394_1146 {L : Nat} {xs : Nat → Int32} {d x : Nat} {M : qxM} {st : List Value} {ls : qxL} : Rs L xs (d) 394 1146 ls st M x = Rs L xs (d) 394 1147 ls (.int (nI 0) :: st) M x := Rs_next c394_1146 rfl
theorem c394_1147 : qx_code 394 1147 = some (1147, .invokevirtual 267, 1150, 262, 3, 1874) := by decide +kernel
theorem s394_1147 {L : Nat} {xs : Nat → Int32} {d x : Nat} {M : qxM} {st : List Value} {ls : qxL} {t : Nat} {z0 : Int32} {z1 : Int32} (hk : qx_kd t = 18) (hs : st.length ≤ 4) : Rs L xs (d + 1) 394 1147 ls (.int z1 :: .int z0 :: .ref t :: st) M x = (Rs L xs d 262 0 [some (.ref t), some (.int z0), some (.int z1)] [] M 0).bind (qx_kn L xs (d + 1) 394 1147 1150 262 ls st x) := by
  have h1 : qx_act L xs (qx_rt 394) (1147, .invokevirtual 267, 1150, 262, 3, 1874) ls (.int z1 :: .int z0 :: .ref t :: st) M = if 3 ≤ (.int z1 :: .int z0 :: .ref t :: st).length ∧ st.length ≤ 4 then some (.inr (.inr (.inr (262, [.ref t, .int z0, .int z1], st)))) else none := rfl
  rw [if_pos ⟨by simp [List.length_cons]; try omega, hs⟩] at h1
  have h2 := qx_kd_obj (k := 8) (by decide) hk
  exact Rs_call c394_1147 h1 (by rw [show qx_args 262 [.ref t, .int z0, .int z1] = decide (qx_sh t = some (.inl 8)) from rfl]; exact decide_eq_true h2)
theorem c394_1150 : qx_code 394 1150 = some (1150, .istore 7, 1152, 0, 0, 0) := by decide +kernel
theorem s394_1150i {L : Nat} {xs : Nat → Int32} {d x : Nat} {M : qxM} {st : List Value} {a0 a1 a2 a3 a4 a5 a7 a8 : Option Value} {z : Int32} {y : Int32} : Rs L xs (d) 394 1150 [a0, a1, a2, a3, a4, a5, some (.int y), a7, a8] (.int z :: st) M x = Rs L xs (d) 394 1152 [a0, a1, a2, a3, a4, a5, some (.int y), some (.int z), a8] st M x := Rs_next c394_1150 rfl
theorem c394_1152 : qx_code 394 1152 = some (1152, .aload_n 2, 1153, 0, 0, 0) := by decide +kernel
theorem s394_1152 {L : Nat} {xs : Nat → Int32} {d x : Nat} {M : qxM} {st : List Value} {a0 a1 a3 a4 a5 a6 a7 a8 : Option Value} {z : Nat} : Rs L xs (d) 394 1152 [a0, a1, some (.ref z), a3, a4, a5, a6, a7, a8] st M x = Rs L xs (d) 394 1153 [a0, a1, some (.ref z), a3, a4, a5, a6, a7, a8] (.ref z :: st) M x := Rs_next c394_1152 rfl
theorem c394_1153 : qx_code 394 1153 = some (1153, .invokevirtual 218, 1156, 177, 1, 1613) := by decide +kernel
theorem s394_1153 {L : Nat} {xs : Nat → Int32} {d x : Nat} {M : qxM} {st : List Value} {ls : qxL} {t : Nat} (hk : qx_kd t = 18) (hs : st.length ≤ 4) : Rs L xs (d + 1) 394 1153 ls (.ref t :: st) M x = (Rs L xs d 177 0 [some (.ref t)] [] M 0).bind (qx_kn L xs (d + 1) 394 1153 1156 177 ls st x) := by
  have h1 : qx_act L xs (qx_rt 394) (1153, .invokevirtual 218, 1156, 177, 1, 1613) ls (.ref t :: st) M = if 1 ≤ (.ref t :: st).length ∧ st.length ≤ 4 then some (.inr (.inr (.inr (177, [.ref t], st)))) else none := rfl
  rw [if_pos ⟨by simp [List.length_cons]; try omega, hs⟩] at h1
  have h2 := qx_kd_obj (k := 8) (by decide) hk
  exact Rs_call c394_1153 h1 (by rw [show qx_args 177 [.ref t] = decide (qx_sh t = some (.inl 8)) from rfl]; exact decide_eq_true h2)
theorem c394_1156 : qx_code 394 1156 = some (1156, .iload 6, 1158, 0, 0, 0) := by decide +kernel
theorem s394_1156 {L : Nat} {xs : Nat → Int32} {d x : Nat} {M : qxM} {st : List Value} {a0 a1 a2 a3 a4 a5 a7 a8 : Option Value} {z : Int32} : Rs L xs (d) 394 1156 [a0, a1, a2, a3, a4, a5, some (.int z), a7, a8] st M x = Rs L xs (d) 394 1158 [a0, a1, a2, a3, a4, a5, some (.int z), a7, a8] (.int z :: st) M x := Rs_next c394_1156 rfl
theorem c394_1158 : qx_code 394 1158 = some (1158, .if_icmp .eq 5, 1161, 1163, 0, 0) := by decide +kernel
theorem s394_1158 {L : Nat} {xs : Nat → Int32} {d x : Nat} {M : qxM} {st : List Value} {ls : qxL} {z y : Int32} : Rs L xs (d) 394 1158 ls (.int y :: .int z :: st) M x = if z = y then Rs L xs (d) 394 1163 ls st M x else Rs L xs (d) 394 1161 ls st M x := Rs_ite c394_1158 rfl
theorem c394_1163 : qx_code 394 1163 = some (1163, .iload 6, 1165, 0, 0, 0) := by decide +kernel
theorem s394_1163 {L : Nat} {xs : Nat → Int32} {d x : Nat} {M : qxM} {st : List Value} {a0 a1 a2 a3 a4 a5 a7 a8 : Option Value} {z : Int32} : Rs L xs (d) 394 1163 [a0, a1, a2, a3, a4, a5, some (.int z), a7, a8] st M x = Rs L xs (d) 394 1165 [a0, a1, a2, a3, a4, a5, some (.int z), a7, a8] (.int z :: st) M x := Rs_next c394_1163 rfl
theorem c394_1165 : qx_code 394 1165 = some (1165, .ifCond .ne 15, 1168, 1180, 0, 0) := by decide +kernel
theorem s394_1165 {L : Nat} {xs : Nat → Int32} {d x : Nat} {M : qxM} {st : List Value} {ls : qxL} {z : Int32} : Rs L xs (d) 394 1165 ls (.int z :: st) M x = if z = 0 then Rs L xs (d) 394 1168 ls st M x else Rs L xs (d) 394 1180 ls st M x := Rs_ite c394_1165 rfl
theorem c394_1168 : qx_code 394 1168 = some (1168, .aload_n 3, 1169, 0, 0, 0) := by decide +kernel
theorem s394_1168 {L : Nat} {xs : Nat → Int32} {d x : Nat} {M : qxM} {st : List Value} {a0 a1 a2 a4 a5 a6 a7 a8 : Option Value} {z : Nat} : Rs L xs (d) 394 1168 [a0, a1, a2, some (.ref z), a4, a5, a6, a7, a8] st M x = Rs L xs (d) 394 1169 [a0, a1, a2, some (.ref z), a4, a5, a6, a7, a8] (.ref z :: st) M x := Rs_next c394_1168 rfl
theorem c394_1169 : qx_code 394 1169 = some (1169, .iconst 0, 1170, 0, 0, 0) := by decide +kernel
theorem s394_1169 {L : Nat} {xs : Nat → Int32} {d x : Nat} {M : qxM} {st : List Value} {ls : qxL} : Rs L xs (d) 394 1169 ls st M x = Rs L xs (d) 394 1170 ls (.int (nI 0) :: st) M x := Rs_next c394_1169 rfl
theorem c394_1170 : qx_code 394 1170 = some (1170, .laload, 1171, 0, 0, 0) := by decide +kernel
theorem s394_1170 {L : Nat} {xs : Nat → Int32} {d x : Nat} {M : qxM} {st : List Value} {ls : qxL} {t : Nat} {j : Int32} (hk : qx_kd t = 4) (hj : qx_ib j (qx_ln t) = true) : Rs L xs (d) 394 1170 ls (.int j :: .ref t :: st) M x = Rs L xs (d) 394 1171 ls (.long (M.2.1 j.toNatClampNeg) :: st) M x := by
  have h1 := qx_kd_row (k := 4) (by decide) hk
  exact Rs_unless (qx_ib_not hj) c394_1170 (by unfold qx_act; dsimp only; rw [h1]; rfl)
theorem c394_1171 : qx_code 394 1171 = some (1171, .iload 7, 1173, 0, 0, 0) := by decide +kernel
theorem s394_1171 {L : Nat} {xs : Nat → Int32} {d x : Nat} {M : qxM} {st : List Value} {a0 a1 a2 a3 a4 a5 a6 a8 : Option Value} {z : Int32} : Rs L xs (d) 394 1171 [a0, a1, a2, a3, a4, a5, a6, some (.int z), a8] st M x = Rs L xs (d) 394 1173 [a0, a1, a2, a3, a4, a5, a6, some (.int z), a8] (.int z :: st) M x := Rs_next c394_1171 rfl
theorem c394_1173 : qx_code 394 1173 = some (1173, .i2l, 1174, 0, 0, 0) := by decide +kernel
theorem s394_1173 {L : Nat} {xs : Nat → Int32} {d x : Nat} {M : qxM} {st : List Value} {ls : qxL} {z : Int32} : Rs L xs (d) 394 1173 ls (.int z :: st) M x = Rs L xs (d) 394 1174 ls (.long z.toInt64 :: st) M x := Rs_next c394_1173 rfl
theorem c394_1174 : qx_code 394 1174 = some (1174, .lcmp, 1175, 0, 0, 0) := by decide +kernel
theorem s394_1174 {L : Nat} {xs : Nat → Int32} {d x : Nat} {M : qxM} {st : List Value} {ls : qxL} {z y : Int64} : Rs L xs (d) 394 1174 ls (.long y :: .long z :: st) M x = Rs L xs (d) 394 1175 ls (.int (lg_cmp z y) :: st) M x := Rs_next c394_1174 rfl
theorem c394_1175 : qx_code 394 1175 = some (1175, .ifCond .eq 5, 1178, 1180, 0, 0) := by decide +kernel
theorem s394_1175 {L : Nat} {xs : Nat → Int32} {d x : Nat} {M : qxM} {st : List Value} {ls : qxL} {z : Int32} : Rs L xs (d) 394 1175 ls (.int z :: st) M x = if z = 0 then Rs L xs (d) 394 1180 ls st M x else Rs L xs (d) 394 1178 ls st M x := Rs_ite c394_1175 rfl
theorem c394_1180 : qx_code 394 1180 = some (1180, .goto 2566, 1183, 3746, 0, 0) := by decide +kernel
theorem s394_1180 {L : Nat} {xs : Nat → Int32} {d x : Nat} {M : qxM} {st : List Value} {ls : qxL} : Rs L xs (d) 394 1180 ls st M x = Rs L xs (d) 394 3746 ls st M x := Rs_next c394_1180 rfl
theorem c394_1183 : qx_code 394 1183 = some (1183, .aload_n 1, 1184, 0, 0, 0) := by decide +kernel
theorem s394_1183 {L : Nat} {xs : Nat → Int32} {d x : Nat} {M : qxM} {st : List Value} {a0 a2 a3 a4 a5 a6 a7 a8 : Option Value} {z : Nat} : Rs L xs (d) 394 1183 [a0, some (.ref z), a2, a3, a4, a5, a6, a7, a8] st M x = Rs L xs (d) 394 1184 [a0, some (.ref z), a2, a3, a4, a5, a6, a7, a8] (.ref z :: st) M x := Rs_next c394_1183 rfl
theorem c394_1184 : qx_code 394 1184 = some (1184, .aload_n 0, 1185, 0, 0, 0) := by decide +kernel
theorem s394_1184 {L : Nat} {xs : Nat → Int32} {d x : Nat} {M : qxM} {st : List Value} {a1 a2 a3 a4 a5 a6 a7 a8 : Option Value} {z : Nat} : Rs L xs (d) 394 1184 [some (.ref z), a1, a2, a3, a4, a5, a6, a7, a8] st M x = Rs L xs (d) 394 1185 [some (.ref z), a1, a2, a3, a4, a5, a6, a7, a8] (.ref z :: st) M x := Rs_next c394_1184 rfl
theorem c394_1185 : qx_code 394 1185 = some (1185, .iload 5, 1187, 0, 0, 0) := by decide +kernel
theorem s394_1185 {L : Nat} {xs : Nat → Int32} {d x : Nat} {M : qxM} {st : List Value} {a0 a1 a2 a3 a4 a6 a7 a8 : Option Value} {z : Int32} : Rs L xs (d) 394 1185 [a0, a1, a2, a3, a4, some (.int z), a6, a7, a8] st M x = Rs L xs (d) 394 1187 [a0, a1, a2, a3, a4, some (.int z), a6, a7, a8] (.int z :: st) M x := Rs_next c394_1185 rfl
theorem c394_1187 : qx_code 394 1187 = some (1187, .iconst 1, 1188, 0, 0, 0) := by decide +kernel
theorem s394_1187 {L : Nat} {xs : Nat → Int32} {d x : Nat} {M : qxM} {st : List Value} {ls : qxL} : Rs L xs (d) 394 1187 ls st M x = Rs L xs (d) 394 1188 ls (.int (nI 1) :: st) M x := Rs_next c394_1187 rfl
theorem c394_1188 : qx_code 394 1188 = some (1188, .iadd, 1189, 0, 0, 0) := by decide +kernel
theorem s394_1188 {L : Nat} {xs : Nat → Int32} {d x : Nat} {M : qxM} {st : List Value} {ls : qxL} {z y : Int32} : Rs L xs (d) 394 1188 ls (.int y :: .int z :: st) M x = Rs L xs (d) 394 1189 ls (.int (z + y) :: st) M x := Rs_next c394_1188 rfl
theorem c394_1189 : qx_code 394 1189 = some (1189, .iaload, 1190, 0, 0, 0) := by decide +kernel
theorem s394_1189s {L : Nat} {xs : Nat → Int32} {d x : Nat} {M : qxM} {st : List Value} {ls : qxL} {j : Int32} (hj : qx_ib j L = true) : Rs L xs (d) 394 1189 ls (.int j :: .ref 1 :: st) M x = Rs L xs (d) 394 1190 ls (.int (xs j.toNatClampNeg) :: st) M x := Rs_unless (qx_ib_not hj) c394_1189 rfl
theorem c394_1190 : qx_code 394 1190 = some (1190, .aload_n 3, 1191, 0, 0, 0) := by decide +kernel
theorem s394_1190 {L : Nat} {xs : Nat → Int32} {d x : Nat} {M : qxM} {st : List Value} {a0 a1 a2 a4 a5 a6 a7 a8 : Option Value} {z : Nat} : Rs L xs (d) 394 1190 [a0, a1, a2, some (.ref z), a4, a5, a6, a7, a8] st M x = Rs L xs (d) 394 1191 [a0, a1, a2, some (.ref z), a4, a5, a6, a7, a8] (.ref z :: st) M x := Rs_next c394_1190 rfl
theorem c394_1191 : qx_code 394 1191 = some (1191, .invokestatic 268, 1194, 347, 3, 908) := by decide +kernel
theorem s394_1191 {L : Nat} {xs : Nat → Int32} {d x : Nat} {M : qxM} {st : List Value} {ls : qxL} {z0 : Nat} {z1 : Int32} {z2 : Nat} (hs : st.length ≤ 4) : Rs L xs (d + 1) 394 1191 ls (.ref z2 :: .int z1 :: .ref z0 :: st) M x = (Rs L xs d 347 0 [some (.ref z0), some (.int z1), some (.ref z2), none] [] M 0).bind (qx_kn L xs (d + 1) 394 1191 1194 347 ls st x) := by
  have h1 : qx_act L xs (qx_rt 394) (1191, .invokestatic 268, 1194, 347, 3, 908) ls (.ref z2 :: .int z1 :: .ref z0 :: st) M = if 3 ≤ (.ref z2 :: .int z1 :: .ref z0 :: st).length ∧ st.length ≤ 4 then some (.inr (.inr (.inr (347, [.ref z0, .int z1, .ref z2], st)))) else none := rfl
  rw [if_pos ⟨by simp [List.length_cons]; try omega, hs⟩] at h1
  exact Rs_call c394_1191 h1 rfl
theorem c394_1194 : qx_code 394 1194 = some (1194, .istore 6, 1196, 0, 0, 0) := by decide +kernel
theorem s394_1194i {L : Nat} {xs : Nat → Int32} {d x : Nat} {M : qxM} {st : List Value} {a0 a1 a2 a3 a4 a6 a7 a8 : Option Value} {z : Int32} {y : Int32} : Rs L xs (d) 394 1194 [a0, a1, a2, a3, a4, some (.int y), a6, a7, a8] (.int z :: st) M x = Rs L xs (d) 394 1196 [a0, a1, a2, a3, a4, some (.int y), some (.int z), a7, a8] st M x := Rs_next c394_1194 rfl
theorem c394_1196 : qx_code 394 1196 = some (1196, .aload_n 2, 1197, 0, 0, 0) := by decide +kernel
theorem s394_1196 {L : Nat} {xs : Nat → Int32} {d x : Nat} {M : qxM} {st : List Value} {a0 a1 a3 a4 a5 a6 a7 a8 : Option Value} {z : Nat} : Rs L xs (d) 394 1196 [a0, a1, some (.ref z), a3, a4, a5, a6, a7, a8] st M x = Rs L xs (d) 394 1197 [a0, a1, some (.ref z), a3, a4, a5, a6, a7, a8] (.ref z :: st) M x := Rs_next c394_1196 rfl
theorem c394_1197 : qx_code 394 1197 = some (1197, .aload_n 0, 1198, 0, 0, 0) := by decide +kernel
theorem s394_1197 {L : Nat} {xs : Nat → Int32} {d x : Nat} {M : qxM} {st : List Value} {a1 a2 a3 a4 a5 a6 a7 a8 : Option Value} {z : Nat} : Rs L xs (d) 394 1197 [some (.ref z), a1, a2, a3, a4, a5, a6, a7, a8] st M x = Rs L xs (d) 394 1198 [some (.ref z), a1, a2, a3, a4, a5, a6, a7, a8] (.ref z :: st) M x := Rs_next c394_1197 rfl
theorem c394_1198 : qx_code 394 1198 = some (1198, .iload 5, 1200, 0, 0, 0) := by decide +kernel
theorem s394_1198 {L : Nat} {xs : Nat → Int32} {d x : Nat} {M : qxM} {st : List Value} {a0 a1 a2 a3 a4 a6 a7 a8 : Option Value} {z : Int32} : Rs L xs (d) 394 1198 [a0, a1, a2, a3, a4, some (.int z), a6, a7, a8] st M x = Rs L xs (d) 394 1200 [a0, a1, a2, a3, a4, some (.int z), a6, a7, a8] (.int z :: st) M x := Rs_next c394_1198 rfl
theorem c394_1200 : qx_code 394 1200 = some (1200, .iconst 1, 1201, 0, 0, 0) := by decide +kernel
theorem s394_1200 {L : Nat} {xs : Nat → Int32} {d x : Nat} {M : qxM} {st : List Value} {ls : qxL} : Rs L xs (d) 394 1200 ls st M x = Rs L xs (d) 394 1201 ls (.int (nI 1) :: st) M x := Rs_next c394_1200 rfl
theorem c394_1201 : qx_code 394 1201 = some (1201, .iadd, 1202, 0, 0, 0) := by decide +kernel
theorem s394_1201 {L : Nat} {xs : Nat → Int32} {d x : Nat} {M : qxM} {st : List Value} {ls : qxL} {z y : Int32} : Rs L xs (d) 394 1201 ls (.int y :: .int z :: st) M x = Rs L xs (d) 394 1202 ls (.int (z + y) :: st) M x := Rs_next c394_1201 rfl
theorem c394_1202 : qx_code 394 1202 = some (1202, .iaload, 1203, 0, 0, 0) := by decide +kernel
theorem s394_1202s {L : Nat} {xs : Nat → Int32} {d x : Nat} {M : qxM} {st : List Value} {ls : qxL} {j : Int32} (hj : qx_ib j L = true) : Rs L xs (d) 394 1202 ls (.int j :: .ref 1 :: st) M x = Rs L xs (d) 394 1203 ls (.int (xs j.toNatClampNeg) :: st) M x := Rs_unless (qx_ib_not hj) c394_1202 rfl
theorem c394_1203 : qx_code 394 1203 = some (1203, .invokevirtual 270, 1206, 264, 2, 1878) := by decide +kernel
theorem s394_1203 {L : Nat} {xs : Nat → Int32} {d x : Nat} {M : qxM} {st : List Value} {ls : qxL} {t : Nat} {z0 : Int32} (hk : qx_kd t = 18) (hs : st.length ≤ 4) : Rs L xs (d + 1) 394 1203 ls (.int z0 :: .ref t :: st) M x = (Rs L xs d 264 0 [some (.ref t), some (.int z0)] [] M 0).bind (qx_kn L xs (d + 1) 394 1203 1206 264 ls st x) := by
  have h1 : qx_act L xs (qx_rt 394) (1203, .invokevirtual 270, 1206, 264, 2, 1878) ls (.int z0 :: .ref t :: st) M = if 2 ≤ (.int z0 :: .ref t :: st).length ∧ st.length ≤ 4 then some (.inr (.inr (.inr (264, [.ref t, .int z0], st)))) else none := rfl
  rw [if_pos ⟨by simp [List.length_cons]; try omega, hs⟩] at h1
  have h2 := qx_kd_obj (k := 8) (by decide) hk
  exact Rs_call c394_1203 h1 (by rw [show qx_args 264 [.ref t, .int z0] = decide (qx_sh t = some (.inl 8)) from rfl]; exact decide_eq_true h2)
theorem c394_1206 : qx_code 394 1206 = some (1206, .istore 7, 1208, 0, 0, 0) := by decide +kernel
theorem s394_1206i {L : Nat} {xs : Nat → Int32} {d x : Nat} {M : qxM} {st : List Value} {a0 a1 a2 a3 a4 a5 a7 a8 : Option Value} {z : Int32} {y : Int32} : Rs L xs (d) 394 1206 [a0, a1, a2, a3, a4, a5, some (.int y), a7, a8] (.int z :: st) M x = Rs L xs (d) 394 1208 [a0, a1, a2, a3, a4, a5, some (.int y), some (.int z), a8] st M x := Rs_next c394_1206 rfl
theorem c394_1208 : qx_code 394 1208 = some (1208, .aload_n 2, 1209, 0, 0, 0) := by decide +kernel
theorem s394_1208 {L : Nat} {xs : Nat → Int32} {d x : Nat} {M : qxM} {st : List Value} {a0 a1 a3 a4 a5 a6 a7 a8 : Option Value} {z : Nat} : Rs L xs (d) 394 1208 [a0, a1, some (.ref z), a3, a4, a5, a6, a7, a8] st M x = Rs L xs (d) 394 1209 [a0, a1, some (.ref z), a3, a4, a5, a6, a7, a8] (.ref z :: st) M x := Rs_next c394_1208 rfl
theorem c394_1209 : qx_code 394 1209 = some (1209, .invokevirtual 218, 1212, 177, 1, 1613) := by decide +kernel
theorem s394_1209 {L : Nat} {xs : Nat → Int32} {d x : Nat} {M : qxM} {st : List Value} {ls : qxL} {t : Nat} (hk : qx_kd t = 18) (hs : st.length ≤ 4) : Rs L xs (d + 1) 394 1209 ls (.ref t :: st) M x = (Rs L xs d 177 0 [some (.ref t)] [] M 0).bind (qx_kn L xs (d + 1) 394 1209 1212 177 ls st x) := by
  have h1 : qx_act L xs (qx_rt 394) (1209, .invokevirtual 218, 1212, 177, 1, 1613) ls (.ref t :: st) M = if 1 ≤ (.ref t :: st).length ∧ st.length ≤ 4 then some (.inr (.inr (.inr (177, [.ref t], st)))) else none := rfl
  rw [if_pos ⟨by simp [List.length_cons]; try omega, hs⟩] at h1
  have h2 := qx_kd_obj (k := 8) (by decide) hk
  exact Rs_call c394_1209 h1 (by rw [show qx_args 177 [.ref t] = decide (qx_sh t = some (.inl 8)) from rfl]; exact decide_eq_true h2)
theorem c394_1212 : qx_code 394 1212 = some (1212, .iload 6, 1214, 0, 0, 0) := by decide +kernel
theorem s394_1212 {L : Nat} {xs : Nat → Int32} {d x : Nat} {M : qxM} {st : List Value} {a0 a1 a2 a3 a4 a5 a7 a8 : Option Value} {z : Int32} : Rs L xs (d) 394 1212 [a0, a1, a2, a3, a4, a5, some (.int z), a7, a8] st M x = Rs L xs (d) 394 1214 [a0, a1, a2, a3, a4, a5, some (.int z), a7, a8] (.int z :: st) M x := Rs_next c394_1212 rfl
theorem c394_1214 : qx_code 394 1214 = some (1214, .if_icmp .eq 5, 1217, 1219, 0, 0) := by decide +kernel
theorem s394_1214 {L : Nat} {xs : Nat → Int32} {d x : Nat} {M : qxM} {st : List Value} {ls : qxL} {z y : Int32} : Rs L xs (d) 394 1214 ls (.int y :: .int z :: st) M x = if z = y then Rs L xs (d) 394 1219 ls st M x else Rs L xs (d) 394 1217 ls st M x := Rs_ite c394_1214 rfl
theorem c394_1219 : qx_code 394 1219 = some (1219, .iload 6, 1221, 0, 0, 0) := by decide +kernel
theorem s394_1219 {L : Nat} {xs : Nat → Int32} {d x : Nat} {M : qxM} {st : List Value} {a0 a1 a2 a3 a4 a5 a7 a8 : Option Value} {z : Int32} : Rs L xs (d) 394 1219 [a0, a1, a2, a3, a4, a5, some (.int z), a7, a8] st M x = Rs L xs (d) 394 1221 [a0, a1, a2, a3, a4, a5, some (.int z), a7, a8] (.int z :: st) M x := Rs_next c394_1219 rfl
theorem c394_1221 : qx_code 394 1221 = some (1221, .ifCond .ne 15, 1224, 1236, 0, 0) := by decide +kernel
theorem s394_1221 {L : Nat} {xs : Nat → Int32} {d x : Nat} {M : qxM} {st : List Value} {ls : qxL} {z : Int32} : Rs L xs (d) 394 1221 ls (.int z :: st) M x = if z = 0 then Rs L xs (d) 394 1224 ls st M x else Rs L xs (d) 394 1236 ls st M x := Rs_ite c394_1221 rfl
theorem c394_1224 : qx_code 394 1224 = some (1224, .aload_n 3, 1225, 0, 0, 0) := by decide +kernel
theorem s394_1224 {L : Nat} {xs : Nat → Int32} {d x : Nat} {M : qxM} {st : List Value} {a0 a1 a2 a4 a5 a6 a7 a8 : Option Value} {z : Nat} : Rs L xs (d) 394 1224 [a0, a1, a2, some (.ref z), a4, a5, a6, a7, a8] st M x = Rs L xs (d) 394 1225 [a0, a1, a2, some (.ref z), a4, a5, a6, a7, a8] (.ref z :: st) M x := Rs_next c394_1224 rfl
theorem c394_1225 : qx_code 394 1225 = some (1225, .iconst 0, 1226, 0, 0, 0) := by decide +kernel
theorem s394_1225 {L : Nat} {xs : Nat → Int32} {d x : Nat} {M : qxM} {st : List Value} {ls : qxL} : Rs L xs (d) 394 1225 ls st M x = Rs L xs (d) 394 1226 ls (.int (nI 0) :: st) M x := Rs_next c394_1225 rfl
theorem c394_1226 : qx_code 394 1226 = some (1226, .laload, 1227, 0, 0, 0) := by decide +kernel
theorem s394_1226 {L : Nat} {xs : Nat → Int32} {d x : Nat} {M : qxM} {st : List Value} {ls : qxL} {t : Nat} {j : Int32} (hk : qx_kd t = 4) (hj : qx_ib j (qx_ln t) = true) : Rs L xs (d) 394 1226 ls (.int j :: .ref t :: st) M x = Rs L xs (d) 394 1227 ls (.long (M.2.1 j.toNatClampNeg) :: st) M x := by
  have h1 := qx_kd_row (k := 4) (by decide) hk
  exact Rs_unless (qx_ib_not hj) c394_1226 (by unfold qx_act; dsimp only; rw [h1]; rfl)
theorem c394_1227 : qx_code 394 1227 = some (1227, .iload 7, 1229, 0, 0, 0) := by decide +kernel
theorem s394_1227 {L : Nat} {xs : Nat → Int32} {d x : Nat} {M : qxM} {st : List Value} {a0 a1 a2 a3 a4 a5 a6 a8 : Option Value} {z : Int32} : Rs L xs (d) 394 1227 [a0, a1, a2, a3, a4, a5, a6, some (.int z), a8] st M x = Rs L xs (d) 394 1229 [a0, a1, a2, a3, a4, a5, a6, some (.int z), a8] (.int z :: st) M x := Rs_next c394_1227 rfl
theorem c394_1229 : qx_code 394 1229 = some (1229, .i2l, 1230, 0, 0, 0) := by decide +kernel
theorem s394_1229 {L : Nat} {xs : Nat → Int32} {d x : Nat} {M : qxM} {st : List Value} {ls : qxL} {z : Int32} : Rs L xs (d) 394 1229 ls (.int z :: st) M x = Rs L xs (d) 394 1230 ls (.long z.toInt64 :: st) M x := Rs_next c394_1229 rfl
theorem c394_1230 : qx_code 394 1230 = some (1230, .lcmp, 1231, 0, 0, 0) := by decide +kernel
theorem s394_1230 {L : Nat} {xs : Nat → Int32} {d x : Nat} {M : qxM} {st : List Value} {ls : qxL} {z y : Int64} : Rs L xs (d) 394 1230 ls (.long y :: .long z :: st) M x = Rs L xs (d) 394 1231 ls (.int (lg_cmp z y) :: st) M x := Rs_next c394_1230 rfl
theorem c394_1231 : qx_code 394 1231 = some (1231, .ifCond .eq 5, 1234, 1236, 0, 0) := by decide +kernel
theorem s394_1231 {L : Nat} {xs : Nat → Int32} {d x : Nat} {M : qxM} {st : List Value} {ls : qxL} {z : Int32} : Rs L xs (d) 394 1231 ls (.int z :: st) M x = if z = 0 then Rs L xs (d) 394 1236 ls st M x else Rs L xs (d) 394 1234 ls st M x := Rs_ite c394_1231 rfl
theorem c394_1236 : qx_code 394 1236 = some (1236, .goto 2510, 1239, 3746, 0, 0) := by decide +kernel
theorem s394_1236 {L : Nat} {xs : Nat → Int32} {d x : Nat} {M : qxM} {st : List Value} {ls : qxL} : Rs L xs (d) 394 1236 ls st M x = Rs L xs (d) 394 3746 ls st M x := Rs_next c394_1236 rfl
theorem c394_1239 : qx_code 394 1239 = some (1239, .aload_n 1, 1240, 0, 0, 0) := by decide +kernel
theorem s394_1239 {L : Nat} {xs : Nat → Int32} {d x : Nat} {M : qxM} {st : List Value} {a0 a2 a3 a4 a5 a6 a7 a8 : Option Value} {z : Nat} : Rs L xs (d) 394 1239 [a0, some (.ref z), a2, a3, a4, a5, a6, a7, a8] st M x = Rs L xs (d) 394 1240 [a0, some (.ref z), a2, a3, a4, a5, a6, a7, a8] (.ref z :: st) M x := Rs_next c394_1239 rfl
theorem c394_1240 : qx_code 394 1240 = some (1240, .aload_n 3, 1241, 0, 0, 0) := by decide +kernel
theorem s394_1240 {L : Nat} {xs : Nat → Int32} {d x : Nat} {M : qxM} {st : List Value} {a0 a1 a2 a4 a5 a6 a7 a8 : Option Value} {z : Nat} : Rs L xs (d) 394 1240 [a0, a1, a2, some (.ref z), a4, a5, a6, a7, a8] st M x = Rs L xs (d) 394 1241 [a0, a1, a2, some (.ref z), a4, a5, a6, a7, a8] (.ref z :: st) M x := Rs_next c394_1240 rfl
theorem c394_1241 : qx_code 394 1241 = some (1241, .invokestatic 271, 1244, 348, 2, 921) := by decide +kernel
theorem s394_1241 {L : Nat} {xs : Nat → Int32} {d x : Nat} {M : qxM} {st : List Value} {ls : qxL} {z0 : Nat} {z1 : Nat} (hs : st.length ≤ 4) : Rs L xs (d + 1) 394 1241 ls (.ref z1 :: .ref z0 :: st) M x = (Rs L xs d 348 0 [some (.ref z0), some (.ref z1), none] [] M 0).bind (qx_kn L xs (d + 1) 394 1241 1244 348 ls st x) := by
  have h1 : qx_act L xs (qx_rt 394) (1241, .invokestatic 271, 1244, 348, 2, 921) ls (.ref z1 :: .ref z0 :: st) M = if 2 ≤ (.ref z1 :: .ref z0 :: st).length ∧ st.length ≤ 4 then some (.inr (.inr (.inr (348, [.ref z0, .ref z1], st)))) else none := rfl
  rw [if_pos ⟨by simp [List.length_cons]; try omega, hs⟩] at h1
  exact Rs_call c394_1241 h1 rfl
theorem c394_1244 : qx_code 394 1244 = some (1244, .istore 6, 1246, 0, 0, 0) := by decide +kernel
theorem s394_1244i {L : Nat} {xs : Nat → Int32} {d x : Nat} {M : qxM} {st : List Value} {a0 a1 a2 a3 a4 a6 a7 a8 : Option Value} {z : Int32} {y : Int32} : Rs L xs (d) 394 1244 [a0, a1, a2, a3, a4, some (.int y), a6, a7, a8] (.int z :: st) M x = Rs L xs (d) 394 1246 [a0, a1, a2, a3, a4, some (.int y), some (.int z), a7, a8] st M x := Rs_next c394_1244 rfl
theorem c394_1246 : qx_code 394 1246 = some (1246, .aload_n 2, 1247, 0, 0, 0) := by decide +kernel
theorem s394_1246 {L : Nat} {xs : Nat → Int32} {d x : Nat} {M : qxM} {st : List Value} {a0 a1 a3 a4 a5 a6 a7 a8 : Option Value} {z : Nat} : Rs L xs (d) 394 1246 [a0, a1, some (.ref z), a3, a4, a5, a6, a7, a8] st M x = Rs L xs (d) 394 1247 [a0, a1, some (.ref z), a3, a4, a5, a6, a7, a8] (.ref z :: st) M x := Rs_next c394_1246 rfl
theorem c394_1247 : qx_code 394 1247 = some (1247, .invokevirtual 274, 1250, 265, 1, 1886) := by decide +kernel
theorem s394_1247 {L : Nat} {xs : Nat → Int32} {d x : Nat} {M : qxM} {st : List Value} {ls : qxL} {t : Nat} (hk : qx_kd t = 18) (hs : st.length ≤ 4) : Rs L xs (d + 1) 394 1247 ls (.ref t :: st) M x = (Rs L xs d 265 0 [some (.ref t), none] [] M 0).bind (qx_kn L xs (d + 1) 394 1247 1250 265 ls st x) := by
  have h1 : qx_act L xs (qx_rt 394) (1247, .invokevirtual 274, 1250, 265, 1, 1886) ls (.ref t :: st) M = if 1 ≤ (.ref t :: st).length ∧ st.length ≤ 4 then some (.inr (.inr (.inr (265, [.ref t], st)))) else none := rfl
  rw [if_pos ⟨by simp [List.length_cons]; try omega, hs⟩] at h1
  have h2 := qx_kd_obj (k := 8) (by decide) hk
  exact Rs_call c394_1247 h1 (by rw [show qx_args 265 [.ref t] = decide (qx_sh t = some (.inl 8)) from rfl]; exact decide_eq_true h2)
theorem c394_1250 : qx_code 394 1250 = some (1250, .istore 7, 1252, 0, 0, 0) := by decide +kernel
theorem s394_1250i {L : Nat} {xs : Nat → Int32} {d x : Nat} {M : qxM} {st : List Value} {a0 a1 a2 a3 a4 a5 a7 a8 : Option Value} {z : Int32} {y : Int32} : Rs L xs (d) 394 1250 [a0, a1, a2, a3, a4, a5, some (.int y), a7, a8] (.int z :: st) M x = Rs L xs (d) 394 1252 [a0, a1, a2, a3, a4, a5, some (.int y), some (.int z), a8] st M x := Rs_next c394_1250 rfl
theorem c394_1252 : qx_code 394 1252 = some (1252, .aload_n 2, 1253, 0, 0, 0) := by decide +kernel
theorem s394_1252 {L : Nat} {xs : Nat → Int32} {d x : Nat} {M : qxM} {st : List Value} {a0 a1 a3 a4 a5 a6 a7 a8 : Option Value} {z : Nat} : Rs L xs (d) 394 1252 [a0, a1, some (.ref z), a3, a4, a5, a6, a7, a8] st M x = Rs L xs (d) 394 1253 [a0, a1, some (.ref z), a3, a4, a5, a6, a7, a8] (.ref z :: st) M x := Rs_next c394_1252 rfl
theorem c394_1253 : qx_code 394 1253 = some (1253, .invokevirtual 218, 1256, 177, 1, 1613) := by decide +kernel
theorem s394_1253 {L : Nat} {xs : Nat → Int32} {d x : Nat} {M : qxM} {st : List Value} {ls : qxL} {t : Nat} (hk : qx_kd t = 18) (hs : st.length ≤ 4) : Rs L xs (d + 1) 394 1253 ls (.ref t :: st) M x = (Rs L xs d 177 0 [some (.ref t)] [] M 0).bind (qx_kn L xs (d + 1) 394 1253 1256 177 ls st x) := by
  have h1 : qx_act L xs (qx_rt 394) (1253, .invokevirtual 218, 1256, 177, 1, 1613) ls (.ref t :: st) M = if 1 ≤ (.ref t :: st).length ∧ st.length ≤ 4 then some (.inr (.inr (.inr (177, [.ref t], st)))) else none := rfl
  rw [if_pos ⟨by simp [List.length_cons]; try omega, hs⟩] at h1
  have h2 := qx_kd_obj (k := 8) (by decide) hk
  exact Rs_call c394_1253 h1 (by rw [show qx_args 177 [.ref t] = decide (qx_sh t = some (.inl 8)) from rfl]; exact decide_eq_true h2)
theorem c394_1256 : qx_code 394 1256 = some (1256, .iload 6, 1258, 0, 0, 0) := by decide +kernel
theorem s394_1256 {L : Nat} {xs : Nat → Int32} {d x : Nat} {M : qxM} {st : List Value} {a0 a1 a2 a3 a4 a5 a7 a8 : Option Value} {z : Int32} : Rs L xs (d) 394 1256 [a0, a1, a2, a3, a4, a5, some (.int z), a7, a8] st M x = Rs L xs (d) 394 1258 [a0, a1, a2, a3, a4, a5, some (.int z), a7, a8] (.int z :: st) M x := Rs_next c394_1256 rfl
theorem c394_1258 : qx_code 394 1258 = some (1258, .if_icmp .eq 5, 1261, 1263, 0, 0) := by decide +kernel
theorem s394_1258 {L : Nat} {xs : Nat → Int32} {d x : Nat} {M : qxM} {st : List Value} {ls : qxL} {z y : Int32} : Rs L xs (d) 394 1258 ls (.int y :: .int z :: st) M x = if z = y then Rs L xs (d) 394 1263 ls st M x else Rs L xs (d) 394 1261 ls st M x := Rs_ite c394_1258 rfl
theorem c394_1263 : qx_code 394 1263 = some (1263, .iload 6, 1265, 0, 0, 0) := by decide +kernel
theorem s394_1263 {L : Nat} {xs : Nat → Int32} {d x : Nat} {M : qxM} {st : List Value} {a0 a1 a2 a3 a4 a5 a7 a8 : Option Value} {z : Int32} : Rs L xs (d) 394 1263 [a0, a1, a2, a3, a4, a5, some (.int z), a7, a8] st M x = Rs L xs (d) 394 1265 [a0, a1, a2, a3, a4, a5, some (.int z), a7, a8] (.int z :: st) M x := Rs_next c394_1263 rfl
theorem c394_1265 : qx_code 394 1265 = some (1265, .ifCond .ne 15, 1268, 1280, 0, 0) := by decide +kernel
theorem s394_1265 {L : Nat} {xs : Nat → Int32} {d x : Nat} {M : qxM} {st : List Value} {ls : qxL} {z : Int32} : Rs L xs (d) 394 1265 ls (.int z :: st) M x = if z = 0 then Rs L xs (d) 394 1268 ls st M x else Rs L xs (d) 394 1280 ls st M x := Rs_ite c394_1265 rfl
theorem c394_1268 : qx_code 394 1268 = some (1268, .aload_n 3, 1269, 0, 0, 0) := by decide +kernel
theorem s394_1268 {L : Nat} {xs : Nat → Int32} {d x : Nat} {M : qxM} {st : List Value} {a0 a1 a2 a4 a5 a6 a7 a8 : Option Value} {z : Nat} : Rs L xs (d) 394 1268 [a0, a1, a2, some (.ref z), a4, a5, a6, a7, a8] st M x = Rs L xs (d) 394 1269 [a0, a1, a2, some (.ref z), a4, a5, a6, a7, a8] (.ref z :: st) M x := Rs_next c394_1268 rfl
theorem c394_1269 : qx_code 394 1269 = some (1269, .iconst 0, 1270, 0, 0, 0) := by decide +kernel
theorem s394_1269 {L : Nat} {xs : Nat → Int32} {d x : Nat} {M : qxM} {st : List Value} {ls : qxL} : Rs L xs (d) 394 1269 ls st M x = Rs L xs (d) 394 1270 ls (.int (nI 0) :: st) M x := Rs_next c394_1269 rfl
theorem c394_1270 : qx_code 394 1270 = some (1270, .laload, 1271, 0, 0, 0) := by decide +kernel
theorem s394_1270 {L : Nat} {xs : Nat → Int32} {d x : Nat} {M : qxM} {st : List Value} {ls : qxL} {t : Nat} {j : Int32} (hk : qx_kd t = 4) (hj : qx_ib j (qx_ln t) = true) : Rs L xs (d) 394 1270 ls (.int j :: .ref t :: st) M x = Rs L xs (d) 394 1271 ls (.long (M.2.1 j.toNatClampNeg) :: st) M x := by
  have h1 := qx_kd_row (k := 4) (by decide) hk
  exact Rs_unless (qx_ib_not hj) c394_1270 (by unfold qx_act; dsimp only; rw [h1]; rfl)
theorem c394_1271 : qx_code 394 1271 = some (1271, .iload 7, 1273, 0, 0, 0) := by decide +kernel
theorem s394_1271 {L : Nat} {xs : Nat → Int32} {d x : Nat} {M : qxM} {st : List Value} {a0 a1 a2 a3 a4 a5 a6 a8 : Option Value} {z : Int32} : Rs L xs (d) 394 1271 [a0, a1, a2, a3, a4, a5, a6, some (.int z), a8] st M x = Rs L xs (d) 394 1273 [a0, a1, a2, a3, a4, a5, a6, some (.int z), a8] (.int z :: st) M x := Rs_next c394_1271 rfl
theorem c394_1273 : qx_code 394 1273 = some (1273, .i2l, 1274, 0, 0, 0) := by decide +kernel
theorem s394_1273 {L : Nat} {xs : Nat → Int32} {d x : Nat} {M : qxM} {st : List Value} {ls : qxL} {z : Int32} : Rs L xs (d) 394 1273 ls (.int z :: st) M x = Rs L xs (d) 394 1274 ls (.long z.toInt64 :: st) M x := Rs_next c394_1273 rfl
theorem c394_1274 : qx_code 394 1274 = some (1274, .lcmp, 1275, 0, 0, 0) := by decide +kernel
theorem s394_1274 {L : Nat} {xs : Nat → Int32} {d x : Nat} {M : qxM} {st : List Value} {ls : qxL} {z y : Int64} : Rs L xs (d) 394 1274 ls (.long y :: .long z :: st) M x = Rs L xs (d) 394 1275 ls (.int (lg_cmp z y) :: st) M x := Rs_next c394_1274 rfl
theorem c394_1275 : qx_code 394 1275 = some (1275, .ifCond .eq 5, 1278, 1280, 0, 0) := by decide +kernel
theorem s394_1275 {L : Nat} {xs : Nat → Int32} {d x : Nat} {M : qxM} {st : List Value} {ls : qxL} {z : Int32} : Rs L xs (d) 394 1275 ls (.int z :: st) M x = if z = 0 then Rs L xs (d) 394 1280 ls st M x else Rs L xs (d) 394 1278 ls st M x := Rs_ite c394_1275 rfl
theorem c394_1280 : qx_code 394 1280 = some (1280, .goto 2466, 1283, 3746, 0, 0) := by decide +kernel
theorem s394_1280 {L : Nat} {xs : Nat → Int32} {d x : Nat} {M : qxM} {st : List Value} {ls : qxL} : Rs L xs (d) 394 1280 ls st M x = Rs L xs (d) 394 3746 ls st M x := Rs_next c394_1280 rfl
theorem c394_1283 : qx_code 394 1283 = some (1283, .aload_n 1, 1284, 0, 0, 0) := by decide +kernel
theorem s394_1283 {L : Nat} {xs : Nat → Int32} {d x : Nat} {M : qxM} {st : List Value} {a0 a2 a3 a4 a5 a6 a7 a8 : Option Value} {z : Nat} : Rs L xs (d) 394 1283 [a0, some (.ref z), a2, a3, a4, a5, a6, a7, a8] st M x = Rs L xs (d) 394 1284 [a0, some (.ref z), a2, a3, a4, a5, a6, a7, a8] (.ref z :: st) M x := Rs_next c394_1283 rfl
theorem c394_1284 : qx_code 394 1284 = some (1284, .aload_n 0, 1285, 0, 0, 0) := by decide +kernel
theorem s394_1284 {L : Nat} {xs : Nat → Int32} {d x : Nat} {M : qxM} {st : List Value} {a1 a2 a3 a4 a5 a6 a7 a8 : Option Value} {z : Nat} : Rs L xs (d) 394 1284 [some (.ref z), a1, a2, a3, a4, a5, a6, a7, a8] st M x = Rs L xs (d) 394 1285 [some (.ref z), a1, a2, a3, a4, a5, a6, a7, a8] (.ref z :: st) M x := Rs_next c394_1284 rfl
theorem c394_1285 : qx_code 394 1285 = some (1285, .iload 5, 1287, 0, 0, 0) := by decide +kernel
theorem s394_1285 {L : Nat} {xs : Nat → Int32} {d x : Nat} {M : qxM} {st : List Value} {a0 a1 a2 a3 a4 a6 a7 a8 : Option Value} {z : Int32} : Rs L xs (d) 394 1285 [a0, a1, a2, a3, a4, some (.int z), a6, a7, a8] st M x = Rs L xs (d) 394 1287 [a0, a1, a2, a3, a4, some (.int z), a6, a7, a8] (.int z :: st) M x := Rs_next c394_1285 rfl
theorem c394_1287 : qx_code 394 1287 = some (1287, .iconst 1, 1288, 0, 0, 0) := by decide +kernel
theorem s394_1287 {L : Nat} {xs : Nat → Int32} {d x : Nat} {M : qxM} {st : List Value} {ls : qxL} : Rs L xs (d) 394 1287 ls st M x = Rs L xs (d) 394 1288 ls (.int (nI 1) :: st) M x := Rs_next c394_1287 rfl
theorem c394_1288 : qx_code 394 1288 = some (1288, .iadd, 1289, 0, 0, 0) := by decide +kernel
theorem s394_1288 {L : Nat} {xs : Nat → Int32} {d x : Nat} {M : qxM} {st : List Value} {ls : qxL} {z y : Int32} : Rs L xs (d) 394 1288 ls (.int y :: .int z :: st) M x = Rs L xs (d) 394 1289 ls (.int (z + y) :: st) M x := Rs_next c394_1288 rfl
theorem c394_1289 : qx_code 394 1289 = some (1289, .iaload, 1290, 0, 0, 0) := by decide +kernel
theorem s394_1289s {L : Nat} {xs : Nat → Int32} {d x : Nat} {M : qxM} {st : List Value} {ls : qxL} {j : Int32} (hj : qx_ib j L = true) : Rs L xs (d) 394 1289 ls (.int j :: .ref 1 :: st) M x = Rs L xs (d) 394 1290 ls (.int (xs j.toNatClampNeg) :: st) M x := Rs_unless (qx_ib_not hj) c394_1289 rfl
theorem c394_1290 : qx_code 394 1290 = some (1290, .aload_n 3, 1291, 0, 0, 0) := by decide +kernel
theorem s394_1290 {L : Nat} {xs : Nat → Int32} {d x : Nat} {M : qxM} {st : List Value} {a0 a1 a2 a4 a5 a6 a7 a8 : Option Value} {z : Nat} : Rs L xs (d) 394 1290 [a0, a1, a2, some (.ref z), a4, a5, a6, a7, a8] st M x = Rs L xs (d) 394 1291 [a0, a1, a2, some (.ref z), a4, a5, a6, a7, a8] (.ref z :: st) M x := Rs_next c394_1290 rfl
theorem c394_1291 : qx_code 394 1291 = some (1291, .invokestatic 275, 1294, 349, 3, 934) := by decide +kernel
theorem s394_1291 {L : Nat} {xs : Nat → Int32} {d x : Nat} {M : qxM} {st : List Value} {ls : qxL} {z0 : Nat} {z1 : Int32} {z2 : Nat} (hs : st.length ≤ 4) : Rs L xs (d + 1) 394 1291 ls (.ref z2 :: .int z1 :: .ref z0 :: st) M x = (Rs L xs d 349 0 [some (.ref z0), some (.int z1), some (.ref z2), none] [] M 0).bind (qx_kn L xs (d + 1) 394 1291 1294 349 ls st x) := by
  have h1 : qx_act L xs (qx_rt 394) (1291, .invokestatic 275, 1294, 349, 3, 934) ls (.ref z2 :: .int z1 :: .ref z0 :: st) M = if 3 ≤ (.ref z2 :: .int z1 :: .ref z0 :: st).length ∧ st.length ≤ 4 then some (.inr (.inr (.inr (349, [.ref z0, .int z1, .ref z2], st)))) else none := rfl
  rw [if_pos ⟨by simp [List.length_cons]; try omega, hs⟩] at h1
  exact Rs_call c394_1291 h1 rfl
theorem c394_1294 : qx_code 394 1294 = some (1294, .istore 6, 1296, 0, 0, 0) := by decide +kernel
theorem s394_1294i {L : Nat} {xs : Nat → Int32} {d x : Nat} {M : qxM} {st : List Value} {a0 a1 a2 a3 a4 a6 a7 a8 : Option Value} {z : Int32} {y : Int32} : Rs L xs (d) 394 1294 [a0, a1, a2, a3, a4, some (.int y), a6, a7, a8] (.int z :: st) M x = Rs L xs (d) 394 1296 [a0, a1, a2, a3, a4, some (.int y), some (.int z), a7, a8] st M x := Rs_next c394_1294 rfl
theorem c394_1296 : qx_code 394 1296 = some (1296, .aload_n 2, 1297, 0, 0, 0) := by decide +kernel
theorem s394_1296 {L : Nat} {xs : Nat → Int32} {d x : Nat} {M : qxM} {st : List Value} {a0 a1 a3 a4 a5 a6 a7 a8 : Option Value} {z : Nat} : Rs L xs (d) 394 1296 [a0, a1, some (.ref z), a3, a4, a5, a6, a7, a8] st M x = Rs L xs (d) 394 1297 [a0, a1, some (.ref z), a3, a4, a5, a6, a7, a8] (.ref z :: st) M x := Rs_next c394_1296 rfl
theorem c394_1297 : qx_code 394 1297 = some (1297, .aload_n 0, 1298, 0, 0, 0) := by decide +kernel
theorem s394_1297 {L : Nat} {xs : Nat → Int32} {d x : Nat} {M : qxM} {st : List Value} {a1 a2 a3 a4 a5 a6 a7 a8 : Option Value} {z : Nat} : Rs L xs (d) 394 1297 [some (.ref z), a1, a2, a3, a4, a5, a6, a7, a8] st M x = Rs L xs (d) 394 1298 [some (.ref z), a1, a2, a3, a4, a5, a6, a7, a8] (.ref z :: st) M x := Rs_next c394_1297 rfl
theorem c394_1298 : qx_code 394 1298 = some (1298, .iload 5, 1300, 0, 0, 0) := by decide +kernel
theorem s394_1298 {L : Nat} {xs : Nat → Int32} {d x : Nat} {M : qxM} {st : List Value} {a0 a1 a2 a3 a4 a6 a7 a8 : Option Value} {z : Int32} : Rs L xs (d) 394 1298 [a0, a1, a2, a3, a4, some (.int z), a6, a7, a8] st M x = Rs L xs (d) 394 1300 [a0, a1, a2, a3, a4, some (.int z), a6, a7, a8] (.int z :: st) M x := Rs_next c394_1298 rfl
theorem c394_1300 : qx_code 394 1300 = some (1300, .iconst 1, 1301, 0, 0, 0) := by decide +kernel
theorem s394_1300 {L : Nat} {xs : Nat → Int32} {d x : Nat} {M : qxM} {st : List Value} {ls : qxL} : Rs L xs (d) 394 1300 ls st M x = Rs L xs (d) 394 1301 ls (.int (nI 1) :: st) M x := Rs_next c394_1300 rfl
theorem c394_1301 : qx_code 394 1301 = some (1301, .iadd, 1302, 0, 0, 0) := by decide +kernel
theorem s394_1301 {L : Nat} {xs : Nat → Int32} {d x : Nat} {M : qxM} {st : List Value} {ls : qxL} {z y : Int32} : Rs L xs (d) 394 1301 ls (.int y :: .int z :: st) M x = Rs L xs (d) 394 1302 ls (.int (z + y) :: st) M x := Rs_next c394_1301 rfl
theorem c394_1302 : qx_code 394 1302 = some (1302, .iaload, 1303, 0, 0, 0) := by decide +kernel
theorem s394_1302s {L : Nat} {xs : Nat → Int32} {d x : Nat} {M : qxM} {st : List Value} {ls : qxL} {j : Int32} (hj : qx_ib j L = true) : Rs L xs (d) 394 1302 ls (.int j :: .ref 1 :: st) M x = Rs L xs (d) 394 1303 ls (.int (xs j.toNatClampNeg) :: st) M x := Rs_unless (qx_ib_not hj) c394_1302 rfl
theorem c394_1303 : qx_code 394 1303 = some (1303, .invokevirtual 277, 1306, 267, 2, 1898) := by decide +kernel
theorem s394_1303 {L : Nat} {xs : Nat → Int32} {d x : Nat} {M : qxM} {st : List Value} {ls : qxL} {t : Nat} {z0 : Int32} (hk : qx_kd t = 18) (hs : st.length ≤ 4) : Rs L xs (d + 1) 394 1303 ls (.int z0 :: .ref t :: st) M x = (Rs L xs d 267 0 [some (.ref t), some (.int z0)] [] M 0).bind (qx_kn L xs (d + 1) 394 1303 1306 267 ls st x) := by
  have h1 : qx_act L xs (qx_rt 394) (1303, .invokevirtual 277, 1306, 267, 2, 1898) ls (.int z0 :: .ref t :: st) M = if 2 ≤ (.int z0 :: .ref t :: st).length ∧ st.length ≤ 4 then some (.inr (.inr (.inr (267, [.ref t, .int z0], st)))) else none := rfl
  rw [if_pos ⟨by simp [List.length_cons]; try omega, hs⟩] at h1
  have h2 := qx_kd_obj (k := 8) (by decide) hk
  exact Rs_call c394_1303 h1 (by rw [show qx_args 267 [.ref t, .int z0] = decide (qx_sh t = some (.inl 8)) from rfl]; exact decide_eq_true h2)
theorem c394_1306 : qx_code 394 1306 = some (1306, .istore 7, 1308, 0, 0, 0) := by decide +kernel
theorem s394_1306i {L : Nat} {xs : Nat → Int32} {d x : Nat} {M : qxM} {st : List Value} {a0 a1 a2 a3 a4 a5 a7 a8 : Option Value} {z : Int32} {y : Int32} : Rs L xs (d) 394 1306 [a0, a1, a2, a3, a4, a5, some (.int y), a7, a8] (.int z :: st) M x = Rs L xs (d) 394 1308 [a0, a1, a2, a3, a4, a5, some (.int y), some (.int z), a8] st M x := Rs_next c394_1306 rfl
theorem c394_1308 : qx_code 394 1308 = some (1308, .aload_n 2, 1309, 0, 0, 0) := by decide +kernel
theorem s394_1308 {L : Nat} {xs : Nat → Int32} {d x : Nat} {M : qxM} {st : List Value} {a0 a1 a3 a4 a5 a6 a7 a8 : Option Value} {z : Nat} : Rs L xs (d) 394 1308 [a0, a1, some (.ref z), a3, a4, a5, a6, a7, a8] st M x = Rs L xs (d) 394 1309 [a0, a1, some (.ref z), a3, a4, a5, a6, a7, a8] (.ref z :: st) M x := Rs_next c394_1308 rfl
theorem c394_1309 : qx_code 394 1309 = some (1309, .invokevirtual 218, 1312, 177, 1, 1613) := by decide +kernel
theorem s394_1309 {L : Nat} {xs : Nat → Int32} {d x : Nat} {M : qxM} {st : List Value} {ls : qxL} {t : Nat} (hk : qx_kd t = 18) (hs : st.length ≤ 4) : Rs L xs (d + 1) 394 1309 ls (.ref t :: st) M x = (Rs L xs d 177 0 [some (.ref t)] [] M 0).bind (qx_kn L xs (d + 1) 394 1309 1312 177 ls st x) := by
  have h1 : qx_act L xs (qx_rt 394) (1309, .invokevirtual 218, 1312, 177, 1, 1613) ls (.ref t :: st) M = if 1 ≤ (.ref t :: st).length ∧ st.length ≤ 4 then some (.inr (.inr (.inr (177, [.ref t], st)))) else none := rfl
  rw [if_pos ⟨by simp [List.length_cons]; try omega, hs⟩] at h1
  have h2 := qx_kd_obj (k := 8) (by decide) hk
  exact Rs_call c394_1309 h1 (by rw [show qx_args 177 [.ref t] = decide (qx_sh t = some (.inl 8)) from rfl]; exact decide_eq_true h2)
theorem c394_1312 : qx_code 394 1312 = some (1312, .iload 6, 1314, 0, 0, 0) := by decide +kernel
theorem s394_1312 {L : Nat} {xs : Nat → Int32} {d x : Nat} {M : qxM} {st : List Value} {a0 a1 a2 a3 a4 a5 a7 a8 : Option Value} {z : Int32} : Rs L xs (d) 394 1312 [a0, a1, a2, a3, a4, a5, some (.int z), a7, a8] st M x = Rs L xs (d) 394 1314 [a0, a1, a2, a3, a4, a5, some (.int z), a7, a8] (.int z :: st) M x := Rs_next c394_1312 rfl
theorem c394_1314 : qx_code 394 1314 = some (1314, .if_icmp .eq 5, 1317, 1319, 0, 0) := by decide +kernel
theorem s394_1314 {L : Nat} {xs : Nat → Int32} {d x : Nat} {M : qxM} {st : List Value} {ls : qxL} {z y : Int32} : Rs L xs (d) 394 1314 ls (.int y :: .int z :: st) M x = if z = y then Rs L xs (d) 394 1319 ls st M x else Rs L xs (d) 394 1317 ls st M x := Rs_ite c394_1314 rfl
theorem c394_1319 : qx_code 394 1319 = some (1319, .iload 6, 1321, 0, 0, 0) := by decide +kernel
theorem s394_1319 {L : Nat} {xs : Nat → Int32} {d x : Nat} {M : qxM} {st : List Value} {a0 a1 a2 a3 a4 a5 a7 a8 : Option Value} {z : Int32} : Rs L xs (d) 394 1319 [a0, a1, a2, a3, a4, a5, some (.int z), a7, a8] st M x = Rs L xs (d) 394 1321 [a0, a1, a2, a3, a4, a5, some (.int z), a7, a8] (.int z :: st) M x := Rs_next c394_1319 rfl
theorem c394_1321 : qx_code 394 1321 = some (1321, .ifCond .ne 15, 1324, 1336, 0, 0) := by decide +kernel
theorem s394_1321 {L : Nat} {xs : Nat → Int32} {d x : Nat} {M : qxM} {st : List Value} {ls : qxL} {z : Int32} : Rs L xs (d) 394 1321 ls (.int z :: st) M x = if z = 0 then Rs L xs (d) 394 1324 ls st M x else Rs L xs (d) 394 1336 ls st M x := Rs_ite c394_1321 rfl
theorem c394_1324 : qx_code 394 1324 = some (1324, .aload_n 3, 1325, 0, 0, 0) := by decide +kernel
theorem s394_1324 {L : Nat} {xs : Nat → Int32} {d x : Nat} {M : qxM} {st : List Value} {a0 a1 a2 a4 a5 a6 a7 a8 : Option Value} {z : Nat} : Rs L xs (d) 394 1324 [a0, a1, a2, some (.ref z), a4, a5, a6, a7, a8] st M x = Rs L xs (d) 394 1325 [a0, a1, a2, some (.ref z), a4, a5, a6, a7, a8] (.ref z :: st) M x := Rs_next c394_1324 rfl
theorem c394_1325 : qx_code 394 1325 = some (1325, .iconst 0, 1326, 0, 0, 0) := by decide +kernel
theorem s394_1325 {L : Nat} {xs : Nat → Int32} {d x : Nat} {M : qxM} {st : List Value} {ls : qxL} : Rs L xs (d) 394 1325 ls st M x = Rs L xs (d) 394 1326 ls (.int (nI 0) :: st) M x := Rs_next c394_1325 rfl
theorem c394_1326 : qx_code 394 1326 = some (1326, .laload, 1327, 0, 0, 0) := by decide +kernel
theorem s394_1326 {L : Nat} {xs : Nat → Int32} {d x : Nat} {M : qxM} {st : List Value} {ls : qxL} {t : Nat} {j : Int32} (hk : qx_kd t = 4) (hj : qx_ib j (qx_ln t) = true) : Rs L xs (d) 394 1326 ls (.int j :: .ref t :: st) M x = Rs L xs (d) 394 1327 ls (.long (M.2.1 j.toNatClampNeg) :: st) M x := by
  have h1 := qx_kd_row (k := 4) (by decide) hk
  exact Rs_unless (qx_ib_not hj) c394_1326 (by unfold qx_act; dsimp only; rw [h1]; rfl)
theorem c394_1327 : qx_code 394 1327 = some (1327, .iload 7, 1329, 0, 0, 0) := by decide +kernel
theorem s394_1327 {L : Nat} {xs : Nat → Int32} {d x : Nat} {M : qxM} {st : List Value} {a0 a1 a2 a3 a4 a5 a6 a8 : Option Value} {z : Int32} : Rs L xs (d) 394 1327 [a0, a1, a2, a3, a4, a5, a6, some (.int z), a8] st M x = Rs L xs (d) 394 1329 [a0, a1, a2, a3, a4, a5, a6, some (.int z), a8] (.int z :: st) M x := Rs_next c394_1327 rfl
theorem c394_1329 : qx_code 394 1329 = some (1329, .i2l, 1330, 0, 0, 0) := by decide +kernel
theorem s394_1329 {L : Nat} {xs : Nat → Int32} {d x : Nat} {M : qxM} {st : List Value} {ls : qxL} {z : Int32} : Rs L xs (d) 394 1329 ls (.int z :: st) M x = Rs L xs (d) 394 1330 ls (.long z.toInt64 :: st) M x := Rs_next c394_1329 rfl
theorem c394_1330 : qx_code 394 1330 = some (1330, .lcmp, 1331, 0, 0, 0) := by decide +kernel
theorem s394_1330 {L : Nat} {xs : Nat → Int32} {d x : Nat} {M : qxM} {st : List Value} {ls : qxL} {z y : Int64} : Rs L xs (d) 394 1330 ls (.long y :: .long z :: st) M x = Rs L xs (d) 394 1331 ls (.int (lg_cmp z y) :: st) M x := Rs_next c394_1330 rfl
theorem c394_1331 : qx_code 394 1331 = some (1331, .ifCond .eq 5, 1334, 1336, 0, 0) := by decide +kernel
theorem s394_1331 {L : Nat} {xs : Nat → Int32} {d x : Nat} {M : qxM} {st : List Value} {ls : qxL} {z : Int32} : Rs L xs (d) 394 1331 ls (.int z :: st) M x = if z = 0 then Rs L xs (d) 394 1336 ls st M x else Rs L xs (d) 394 1334 ls st M x := Rs_ite c394_1331 rfl
theorem c394_1336 : qx_code 394 1336 = some (1336, .goto 2410, 1339, 3746, 0, 0) := by decide +kernel
theorem s394_1336 {L : Nat} {xs : Nat → Int32} {d x : Nat} {M : qxM} {st : List Value} {ls : qxL} : Rs L xs (d) 394 1336 ls st M x = Rs L xs (d) 394 3746 ls st M x := Rs_next c394_1336 rfl
theorem c394_1339 : qx_code 394 1339 = some (1339, .aload_n 1, 1340, 0, 0, 0) := by decide +kernel
theorem s394_1339 {L : Nat} {xs : Nat → Int32} {d x : Nat} {M : qxM} {st : List Value} {a0 a2 a3 a4 a5 a6 a7 a8 : Option Value} {z : Nat} : Rs L xs (d) 394 1339 [a0, some (.ref z), a2, a3, a4, a5, a6, a7, a8] st M x = Rs L xs (d) 394 1340 [a0, some (.ref z), a2, a3, a4, a5, a6, a7, a8] (.ref z :: st) M x := Rs_next c394_1339 rfl
theorem c394_1340 : qx_code 394 1340 = some (1340, .aload_n 0, 1341, 0, 0, 0) := by decide +kernel
theorem s394_1340 {L : Nat} {xs : Nat → Int32} {d x : Nat} {M : qxM} {st : List Value} {a1 a2 a3 a4 a5 a6 a7 a8 : Option Value} {z : Nat} : Rs L xs (d) 394 1340 [some (.ref z), a1, a2, a3, a4, a5, a6, a7, a8] st M x = Rs L xs (d) 394 1341 [some (.ref z), a1, a2, a3, a4, a5, a6, a7, a8] (.ref z :: st) M x := Rs_next c394_1340 rfl
theorem c394_1341 : qx_code 394 1341 = some (1341, .iload 5, 1343, 0, 0, 0) := by decide +kernel
theorem s394_1341 {L : Nat} {xs : Nat → Int32} {d x : Nat} {M : qxM} {st : List Value} {a0 a1 a2 a3 a4 a6 a7 a8 : Option Value} {z : Int32} : Rs L xs (d) 394 1341 [a0, a1, a2, a3, a4, some (.int z), a6, a7, a8] st M x = Rs L xs (d) 394 1343 [a0, a1, a2, a3, a4, some (.int z), a6, a7, a8] (.int z :: st) M x := Rs_next c394_1341 rfl
theorem c394_1343 : qx_code 394 1343 = some (1343, .iconst 1, 1344, 0, 0, 0) := by decide +kernel
theorem s394_1343 {L : Nat} {xs : Nat → Int32} {d x : Nat} {M : qxM} {st : List Value} {ls : qxL} : Rs L xs (d) 394 1343 ls st M x = Rs L xs (d) 394 1344 ls (.int (nI 1) :: st) M x := Rs_next c394_1343 rfl
theorem c394_1344 : qx_code 394 1344 = some (1344, .iadd, 1345, 0, 0, 0) := by decide +kernel
theorem s394_1344 {L : Nat} {xs : Nat → Int32} {d x : Nat} {M : qxM} {st : List Value} {ls : qxL} {z y : Int32} : Rs L xs (d) 394 1344 ls (.int y :: .int z :: st) M x = Rs L xs (d) 394 1345 ls (.int (z + y) :: st) M x := Rs_next c394_1344 rfl
theorem c394_1345 : qx_code 394 1345 = some (1345, .iaload, 1346, 0, 0, 0) := by decide +kernel
theorem s394_1345s {L : Nat} {xs : Nat → Int32} {d x : Nat} {M : qxM} {st : List Value} {ls : qxL} {j : Int32} (hj : qx_ib j L = true) : Rs L xs (d) 394 1345 ls (.int j :: .ref 1 :: st) M x = Rs L xs (d) 394 1346 ls (.int (xs j.toNatClampNeg) :: st) M x := Rs_unless (qx_ib_not hj) c394_1345 rfl
theorem c394_1346 : qx_code 394 1346 = some (1346, .aload_n 0, 1347, 0, 0, 0) := by decide +kernel
theorem s394_1346 {L : Nat} {xs : Nat → Int32} {d x : Nat} {M : qxM} {st : List Value} {a1 a2 a3 a4 a5 a6 a7 a8 : Option Value} {z : Nat} : Rs L xs (d) 394 1346 [some (.ref z), a1, a2, a3, a4, a5, a6, a7, a8] st M x = Rs L xs (d) 394 1347 [some (.ref z), a1, a2, a3, a4, a5, a6, a7, a8] (.ref z :: st) M x := Rs_next c394_1346 rfl
theorem c394_1347 : qx_code 394 1347 = some (1347, .iload 5, 1349, 0, 0, 0) := by decide +kernel
theorem s394_1347 {L : Nat} {xs : Nat → Int32} {d x : Nat} {M : qxM} {st : List Value} {a0 a1 a2 a3 a4 a6 a7 a8 : Option Value} {z : Int32} : Rs L xs (d) 394 1347 [a0, a1, a2, a3, a4, some (.int z), a6, a7, a8] st M x = Rs L xs (d) 394 1349 [a0, a1, a2, a3, a4, some (.int z), a6, a7, a8] (.int z :: st) M x := Rs_next c394_1347 rfl
theorem c394_1349 : qx_code 394 1349 = some (1349, .iconst 2, 1350, 0, 0, 0) := by decide +kernel
theorem s394_1349 {L : Nat} {xs : Nat → Int32} {d x : Nat} {M : qxM} {st : List Value} {ls : qxL} : Rs L xs (d) 394 1349 ls st M x = Rs L xs (d) 394 1350 ls (.int (nI 2) :: st) M x := Rs_next c394_1349 rfl
theorem c394_1350 : qx_code 394 1350 = some (1350, .iadd, 1351, 0, 0, 0) := by decide +kernel
theorem s394_1350 {L : Nat} {xs : Nat → Int32} {d x : Nat} {M : qxM} {st : List Value} {ls : qxL} {z y : Int32} : Rs L xs (d) 394 1350 ls (.int y :: .int z :: st) M x = Rs L xs (d) 394 1351 ls (.int (z + y) :: st) M x := Rs_next c394_1350 rfl
theorem c394_1351 : qx_code 394 1351 = some (1351, .iaload, 1352, 0, 0, 0) := by decide +kernel
theorem s394_1351s {L : Nat} {xs : Nat → Int32} {d x : Nat} {M : qxM} {st : List Value} {ls : qxL} {j : Int32} (hj : qx_ib j L = true) : Rs L xs (d) 394 1351 ls (.int j :: .ref 1 :: st) M x = Rs L xs (d) 394 1352 ls (.int (xs j.toNatClampNeg) :: st) M x := Rs_unless (qx_ib_not hj) c394_1351 rfl
theorem c394_1352 : qx_code 394 1352 = some (1352, .aload_n 3, 1353, 0, 0, 0) := by decide +kernel
theorem s394_1352 {L : Nat} {xs : Nat → Int32} {d x : Nat} {M : qxM} {st : List Value} {a0 a1 a2 a4 a5 a6 a7 a8 : Option Value} {z : Nat} : Rs L xs (d) 394 1352 [a0, a1, a2, some (.ref z), a4, a5, a6, a7, a8] st M x = Rs L xs (d) 394 1353 [a0, a1, a2, some (.ref z), a4, a5, a6, a7, a8] (.ref z :: st) M x := Rs_next c394_1352 rfl
theorem c394_1353 : qx_code 394 1353 = some (1353, .invokestatic 278, 1356, 350, 4, 949) := by decide +kernel
theorem s394_1353 {L : Nat} {xs : Nat → Int32} {d x : Nat} {M : qxM} {st : List Value} {ls : qxL} {z0 : Nat} {z1 : Int32} {z2 : Int32} {z3 : Nat} (hs : st.length ≤ 4) : Rs L xs (d + 1) 394 1353 ls (.ref z3 :: .int z2 :: .int z1 :: .ref z0 :: st) M x = (Rs L xs d 350 0 [some (.ref z0), some (.int z1), some (.int z2), some (.ref z3), none] [] M 0).bind (qx_kn L xs (d + 1) 394 1353 1356 350 ls st x) := by
  have h1 : qx_act L xs (qx_rt 394) (1353, .invokestatic 278, 1356, 350, 4, 949) ls (.ref z3 :: .int z2 :: .int z1 :: .ref z0 :: st) M = if 4 ≤ (.ref z3 :: .int z2 :: .int z1 :: .ref z0 :: st).length ∧ st.length ≤ 4 then some (.inr (.inr (.inr (350, [.ref z0, .int z1, .int z2, .ref z3], st)))) else none := rfl
  rw [if_pos ⟨by simp [List.length_cons]; try omega, hs⟩] at h1
  exact Rs_call c394_1353 h1 rfl
theorem c394_1356 : qx_code 394 1356 = some (1356, .istore 6, 1358, 0, 0, 0) := by decide +kernel
theorem s394_1356i {L : Nat} {xs : Nat → Int32} {d x : Nat} {M : qxM} {st : List Value} {a0 a1 a2 a3 a4 a6 a7 a8 : Option Value} {z : Int32} {y : Int32} : Rs L xs (d) 394 1356 [a0, a1, a2, a3, a4, some (.int y), a6, a7, a8] (.int z :: st) M x = Rs L xs (d) 394 1358 [a0, a1, a2, a3, a4, some (.int y), some (.int z), a7, a8] st M x := Rs_next c394_1356 rfl
theorem c394_1358 : qx_code 394 1358 = some (1358, .aload_n 2, 1359, 0, 0, 0) := by decide +kernel
theorem s394_1358 {L : Nat} {xs : Nat → Int32} {d x : Nat} {M : qxM} {st : List Value} {a0 a1 a3 a4 a5 a6 a7 a8 : Option Value} {z : Nat} : Rs L xs (d) 394 1358 [a0, a1, some (.ref z), a3, a4, a5, a6, a7, a8] st M x = Rs L xs (d) 394 1359 [a0, a1, some (.ref z), a3, a4, a5, a6, a7, a8] (.ref z :: st) M x := Rs_next c394_1358 rfl
theorem c394_1359 : qx_code 394 1359 = some (1359, .aload_n 0, 1360, 0, 0, 0) := by decide +kernel
theorem s394_1359 {L : Nat} {xs : Nat → Int32} {d x : Nat} {M : qxM} {st : List Value} {a1 a2 a3 a4 a5 a6 a7 a8 : Option Value} {z : Nat} : Rs L xs (d) 394 1359 [some (.ref z), a1, a2, a3, a4, a5, a6, a7, a8] st M x = Rs L xs (d) 394 1360 [some (.ref z), a1, a2, a3, a4, a5, a6, a7, a8] (.ref z :: st) M x := Rs_next c394_1359 rfl
theorem c394_1360 : qx_code 394 1360 = some (1360, .iload 5, 1362, 0, 0, 0) := by decide +kernel
theorem s394_1360 {L : Nat} {xs : Nat → Int32} {d x : Nat} {M : qxM} {st : List Value} {a0 a1 a2 a3 a4 a6 a7 a8 : Option Value} {z : Int32} : Rs L xs (d) 394 1360 [a0, a1, a2, a3, a4, some (.int z), a6, a7, a8] st M x = Rs L xs (d) 394 1362 [a0, a1, a2, a3, a4, some (.int z), a6, a7, a8] (.int z :: st) M x := Rs_next c394_1360 rfl
theorem c394_1362 : qx_code 394 1362 = some (1362, .iconst 1, 1363, 0, 0, 0) := by decide +kernel
theorem s394_1362 {L : Nat} {xs : Nat → Int32} {d x : Nat} {M : qxM} {st : List Value} {ls : qxL} : Rs L xs (d) 394 1362 ls st M x = Rs L xs (d) 394 1363 ls (.int (nI 1) :: st) M x := Rs_next c394_1362 rfl
theorem c394_1363 : qx_code 394 1363 = some (1363, .iadd, 1364, 0, 0, 0) := by decide +kernel
theorem s394_1363 {L : Nat} {xs : Nat → Int32} {d x : Nat} {M : qxM} {st : List Value} {ls : qxL} {z y : Int32} : Rs L xs (d) 394 1363 ls (.int y :: .int z :: st) M x = Rs L xs (d) 394 1364 ls (.int (z + y) :: st) M x := Rs_next c394_1363 rfl
theorem c394_1364 : qx_code 394 1364 = some (1364, .iaload, 1365, 0, 0, 0) := by decide +kernel
theorem s394_1364s {L : Nat} {xs : Nat → Int32} {d x : Nat} {M : qxM} {st : List Value} {ls : qxL} {j : Int32} (hj : qx_ib j L = true) : Rs L xs (d) 394 1364 ls (.int j :: .ref 1 :: st) M x = Rs L xs (d) 394 1365 ls (.int (xs j.toNatClampNeg) :: st) M x := Rs_unless (qx_ib_not hj) c394_1364 rfl
theorem c394_1365 : qx_code 394 1365 = some (1365, .aload_n 0, 1366, 0, 0, 0) := by decide +kernel
theorem s394_1365 {L : Nat} {xs : Nat → Int32} {d x : Nat} {M : qxM} {st : List Value} {a1 a2 a3 a4 a5 a6 a7 a8 : Option Value} {z : Nat} : Rs L xs (d) 394 1365 [some (.ref z), a1, a2, a3, a4, a5, a6, a7, a8] st M x = Rs L xs (d) 394 1366 [some (.ref z), a1, a2, a3, a4, a5, a6, a7, a8] (.ref z :: st) M x := Rs_next c394_1365 rfl
theorem c394_1366 : qx_code 394 1366 = some (1366, .iload 5, 1368, 0, 0, 0) := by decide +kernel
theorem s394_1366 {L : Nat} {xs : Nat → Int32} {d x : Nat} {M : qxM} {st : List Value} {a0 a1 a2 a3 a4 a6 a7 a8 : Option Value} {z : Int32} : Rs L xs (d) 394 1366 [a0, a1, a2, a3, a4, some (.int z), a6, a7, a8] st M x = Rs L xs (d) 394 1368 [a0, a1, a2, a3, a4, some (.int z), a6, a7, a8] (.int z :: st) M x := Rs_next c394_1366 rfl
theorem c394_1368 : qx_code 394 1368 = some (1368, .iconst 2, 1369, 0, 0, 0) := by decide +kernel
theorem s394_1368 {L : Nat} {xs : Nat → Int32} {d x : Nat} {M : qxM} {st : List Value} {ls : qxL} : Rs L xs (d) 394 1368 ls st M x = Rs L xs (d) 394 1369 ls (.int (nI 2) :: st) M x := Rs_next c394_1368 rfl
theorem c394_1369 : qx_code 394 1369 = some (1369, .iadd, 1370, 0, 0, 0) := by decide +kernel
theorem s394_1369 {L : Nat} {xs : Nat → Int32} {d x : Nat} {M : qxM} {st : List Value} {ls : qxL} {z y : Int32} : Rs L xs (d) 394 1369 ls (.int y :: .int z :: st) M x = Rs L xs (d) 394 1370 ls (.int (z + y) :: st) M x := Rs_next c394_1369 rfl
theorem c394_1370 : qx_code 394 1370 = some (1370, .iaload, 1371, 0, 0, 0) := by decide +kernel
theorem s394_1370s {L : Nat} {xs : Nat → Int32} {d x : Nat} {M : qxM} {st : List Value} {ls : qxL} {j : Int32} (hj : qx_ib j L = true) : Rs L xs (d) 394 1370 ls (.int j :: .ref 1 :: st) M x = Rs L xs (d) 394 1371 ls (.int (xs j.toNatClampNeg) :: st) M x := Rs_unless (qx_ib_not hj) c394_1370 rfl
theorem c394_1371 : qx_code 394 1371 = some (1371, .invokevirtual 280, 1374, 268, 3, 1906) := by decide +kernel
theorem s394_1371 {L : Nat} {xs : Nat → Int32} {d x : Nat} {M : qxM} {st : List Value} {ls : qxL} {t : Nat} {z0 : Int32} {z1 : Int32} (hk : qx_kd t = 18) (hs : st.length ≤ 4) : Rs L xs (d + 1) 394 1371 ls (.int z1 :: .int z0 :: .ref t :: st) M x = (Rs L xs d 268 0 [some (.ref t), some (.int z0), some (.int z1)] [] M 0).bind (qx_kn L xs (d + 1) 394 1371 1374 268 ls st x) := by
  have h1 : qx_act L xs (qx_rt 394) (1371, .invokevirtual 280, 1374, 268, 3, 1906) ls (.int z1 :: .int z0 :: .ref t :: st) M = if 3 ≤ (.int z1 :: .int z0 :: .ref t :: st).length ∧ st.length ≤ 4 then some (.inr (.inr (.inr (268, [.ref t, .int z0, .int z1], st)))) else none := rfl
  rw [if_pos ⟨by simp [List.length_cons]; try omega, hs⟩] at h1
  have h2 := qx_kd_obj (k := 8) (by decide) hk
  exact Rs_call c394_1371 h1 (by rw [show qx_args 268 [.ref t, .int z0, .int z1] = decide (qx_sh t = some (.inl 8)) from rfl]; exact decide_eq_true h2)
theorem c394_1374 : qx_code 394 1374 = some (1374, .istore 7, 1376, 0, 0, 0) := by decide +kernel
theorem s394_1374i {L : Nat} {xs : Nat → Int32} {d x : Nat} {M : qxM} {st : List Value} {a0 a1 a2 a3 a4 a5 a7 a8 : Option Value} {z : Int32} {y : Int32} : Rs L xs (d) 394 1374 [a0, a1, a2, a3, a4, a5, some (.int y), a7, a8] (.int z :: st) M x = Rs L xs (d) 394 1376 [a0, a1, a2, a3, a4, a5, some (.int y), some (.int z), a8] st M x := Rs_next c394_1374 rfl
theorem c394_1376 : qx_code 394 1376 = some (1376, .aload_n 2, 1377, 0, 0, 0) := by decide +kernel
theorem s394_1376 {L : Nat} {xs : Nat → Int32} {d x : Nat} {M : qxM} {st : List Value} {a0 a1 a3 a4 a5 a6 a7 a8 : Option Value} {z : Nat} : Rs L xs (d) 394 1376 [a0, a1, some (.ref z), a3, a4, a5, a6, a7, a8] st M x = Rs L xs (d) 394 1377 [a0, a1, some (.ref z), a3, a4, a5, a6, a7, a8] (.ref z :: st) M x := Rs_next c394_1376 rfl
theorem c394_1377 : qx_code 394 1377 = some (1377, .invokevirtual 218, 1380, 177, 1, 1613) := by decide +kernel
theorem s394_1377 {L : Nat} {xs : Nat → Int32} {d x : Nat} {M : qxM} {st : List Value} {ls : qxL} {t : Nat} (hk : qx_kd t = 18) (hs : st.length ≤ 4) : Rs L xs (d + 1) 394 1377 ls (.ref t :: st) M x = (Rs L xs d 177 0 [some (.ref t)] [] M 0).bind (qx_kn L xs (d + 1) 394 1377 1380 177 ls st x) := by
  have h1 : qx_act L xs (qx_rt 394) (1377, .invokevirtual 218, 1380, 177, 1, 1613) ls (.ref t :: st) M = if 1 ≤ (.ref t :: st).length ∧ st.length ≤ 4 then some (.inr (.inr (.inr (177, [.ref t], st)))) else none := rfl
  rw [if_pos ⟨by simp [List.length_cons]; try omega, hs⟩] at h1
  have h2 := qx_kd_obj (k := 8) (by decide) hk
  exact Rs_call c394_1377 h1 (by rw [show qx_args 177 [.ref t] = decide (qx_sh t = some (.inl 8)) from rfl]; exact decide_eq_true h2)
theorem c394_1380 : qx_code 394 1380 = some (1380, .iload 6, 1382, 0, 0, 0) := by decide +kernel
theorem s394_1380 {L : Nat} {xs : Nat → Int32} {d x : Nat} {M : qxM} {st : List Value} {a0 a1 a2 a3 a4 a5 a7 a8 : Option Value} {z : Int32} : Rs L xs (d) 394 1380 [a0, a1, a2, a3, a4, a5, some (.int z), a7, a8] st M x = Rs L xs (d) 394 1382 [a0, a1, a2, a3, a4, a5, some (.int z), a7, a8] (.int z :: st) M x := Rs_next c394_1380 rfl
theorem c394_1382 : qx_code 394 1382 = some (1382, .if_icmp .eq 5, 1385, 1387, 0, 0) := by decide +kernel
theorem s394_1382 {L : Nat} {xs : Nat → Int32} {d x : Nat} {M : qxM} {st : List Value} {ls : qxL} {z y : Int32} : Rs L xs (d) 394 1382 ls (.int y :: .int z :: st) M x = if z = y then Rs L xs (d) 394 1387 ls st M x else Rs L xs (d) 394 1385 ls st M x := Rs_ite c394_1382 rfl
theorem c394_1387 : qx_code 394 1387 = some (1387, .iload 6, 1389, 0, 0, 0) := by decide +kernel
theorem s394_1387 {L : Nat} {xs : Nat → Int32} {d x : Nat} {M : qxM} {st : List Value} {a0 a1 a2 a3 a4 a5 a7 a8 : Option Value} {z : Int32} : Rs L xs (d) 394 1387 [a0, a1, a2, a3, a4, a5, some (.int z), a7, a8] st M x = Rs L xs (d) 394 1389 [a0, a1, a2, a3, a4, a5, some (.int z), a7, a8] (.int z :: st) M x := Rs_next c394_1387 rfl
theorem c394_1389 : qx_code 394 1389 = some (1389, .ifCond .ne 15, 1392, 1404, 0, 0) := by decide +kernel
theorem s394_1389 {L : Nat} {xs : Nat → Int32} {d x : Nat} {M : qxM} {st : List Value} {ls : qxL} {z : Int32} : Rs L xs (d) 394 1389 ls (.int z :: st) M x = if z = 0 then Rs L xs (d) 394 1392 ls st M x else Rs L xs (d) 394 1404 ls st M x := Rs_ite c394_1389 rfl
theorem c394_1392 : qx_code 394 1392 = some (1392, .aload_n 3, 1393, 0, 0, 0) := by decide +kernel
theorem s394_1392 {L : Nat} {xs : Nat → Int32} {d x : Nat} {M : qxM} {st : List Value} {a0 a1 a2 a4 a5 a6 a7 a8 : Option Value} {z : Nat} : Rs L xs (d) 394 1392 [a0, a1, a2, some (.ref z), a4, a5, a6, a7, a8] st M x = Rs L xs (d) 394 1393 [a0, a1, a2, some (.ref z), a4, a5, a6, a7, a8] (.ref z :: st) M x := Rs_next c394_1392 rfl
theorem c394_1393 : qx_code 394 1393 = some (1393, .iconst 0, 1394, 0, 0, 0) := by decide +kernel
theorem s394_1393 {L : Nat} {xs : Nat → Int32} {d x : Nat} {M : qxM} {st : List Value} {ls : qxL} : Rs L xs (d) 394 1393 ls st M x = Rs L xs (d) 394 1394 ls (.int (nI 0) :: st) M x := Rs_next c394_1393 rfl
theorem c394_1394 : qx_code 394 1394 = some (1394, .laload, 1395, 0, 0, 0) := by decide +kernel
theorem s394_1394 {L : Nat} {xs : Nat → Int32} {d x : Nat} {M : qxM} {st : List Value} {ls : qxL} {t : Nat} {j : Int32} (hk : qx_kd t = 4) (hj : qx_ib j (qx_ln t) = true) : Rs L xs (d) 394 1394 ls (.int j :: .ref t :: st) M x = Rs L xs (d) 394 1395 ls (.long (M.2.1 j.toNatClampNeg) :: st) M x := by
  have h1 := qx_kd_row (k := 4) (by decide) hk
  exact Rs_unless (qx_ib_not hj) c394_1394 (by unfold qx_act; dsimp only; rw [h1]; rfl)
theorem c394_1395 : qx_code 394 1395 = some (1395, .iload 7, 1397, 0, 0, 0) := by decide +kernel
theorem s394_1395 {L : Nat} {xs : Nat → Int32} {d x : Nat} {M : qxM} {st : List Value} {a0 a1 a2 a3 a4 a5 a6 a8 : Option Value} {z : Int32} : Rs L xs (d) 394 1395 [a0, a1, a2, a3, a4, a5, a6, some (.int z), a8] st M x = Rs L xs (d) 394 1397 [a0, a1, a2, a3, a4, a5, a6, some (.int z), a8] (.int z :: st) M x := Rs_next c394_1395 rfl
theorem c394_1397 : qx_code 394 1397 = some (1397, .i2l, 1398, 0, 0, 0) := by decide +kernel
theorem s394_1397 {L : Nat} {xs : Nat → Int32} {d x : Nat} {M : qxM} {st : List Value} {ls : qxL} {z : Int32} : Rs L xs (d) 394 1397 ls (.int z :: st) M x = Rs L xs (d) 394 1398 ls (.long z.toInt64 :: st) M x := Rs_next c394_1397 rfl
theorem c394_1398 : qx_code 394 1398 = some (1398, .lcmp, 1399, 0, 0, 0) := by decide +kernel
theorem s394_1398 {L : Nat} {xs : Nat → Int32} {d x : Nat} {M : qxM} {st : List Value} {ls : qxL} {z y : Int64} : Rs L xs (d) 394 1398 ls (.long y :: .long z :: st) M x = Rs L xs (d) 394 1399 ls (.int (lg_cmp z y) :: st) M x := Rs_next c394_1398 rfl
theorem c394_1399 : qx_code 394 1399 = some (1399, .ifCond .eq 5, 1402, 1404, 0, 0) := by decide +kernel
theorem s394_1399 {L : Nat} {xs : Nat → Int32} {d x : Nat} {M : qxM} {st : List Value} {ls : qxL} {z : Int32} : Rs L xs (d) 394 1399 ls (.int z :: st) M x = if z = 0 then Rs L xs (d) 394 1404 ls st M x else Rs L xs (d) 394 1402 ls st M x := Rs_ite c394_1399 rfl
theorem c394_1404 : qx_code 394 1404 = some (1404, .goto 2342, 1407, 3746, 0, 0) := by decide +kernel
theorem s394_1404 {L : Nat} {xs : Nat → Int32} {d x : Nat} {M : qxM} {st : List Value} {ls : qxL} : Rs L xs (d) 394 1404 ls st M x = Rs L xs (d) 394 3746 ls st M x := Rs_next c394_1404 rfl
theorem c394_1407 : qx_code 394 1407 = some (1407, .aload_n 1, 1408, 0, 0, 0) := by decide +kernel
theorem s394_1407 {L : Nat} {xs : Nat → Int32} {d x : Nat} {M : qxM} {st : List Value} {a0 a2 a3 a4 a5 a6 a7 a8 : Option Value} {z : Nat} : Rs L xs (d) 394 1407 [a0, some (.ref z), a2, a3, a4, a5, a6, a7, a8] st M x = Rs L xs (d) 394 1408 [a0, some (.ref z), a2, a3, a4, a5, a6, a7, a8] (.ref z :: st) M x := Rs_next c394_1407 rfl
theorem c394_1408 : qx_code 394 1408 = some (1408, .aload_n 3, 1409, 0, 0, 0) := by decide +kernel
theorem s394_1408 {L : Nat} {xs : Nat → Int32} {d x : Nat} {M : qxM} {st : List Value} {a0 a1 a2 a4 a5 a6 a7 a8 : Option Value} {z : Nat} : Rs L xs (d) 394 1408 [a0, a1, a2, some (.ref z), a4, a5, a6, a7, a8] st M x = Rs L xs (d) 394 1409 [a0, a1, a2, some (.ref z), a4, a5, a6, a7, a8] (.ref z :: st) M x := Rs_next c394_1408 rfl
theorem c394_1409 : qx_code 394 1409 = some (1409, .invokestatic 281, 1412, 351, 2, 962) := by decide +kernel
theorem s394_1409 {L : Nat} {xs : Nat → Int32} {d x : Nat} {M : qxM} {st : List Value} {ls : qxL} {z0 : Nat} {z1 : Nat} (hs : st.length ≤ 4) : Rs L xs (d + 1) 394 1409 ls (.ref z1 :: .ref z0 :: st) M x = (Rs L xs d 351 0 [some (.ref z0), some (.ref z1), none] [] M 0).bind (qx_kn L xs (d + 1) 394 1409 1412 351 ls st x) := by
  have h1 : qx_act L xs (qx_rt 394) (1409, .invokestatic 281, 1412, 351, 2, 962) ls (.ref z1 :: .ref z0 :: st) M = if 2 ≤ (.ref z1 :: .ref z0 :: st).length ∧ st.length ≤ 4 then some (.inr (.inr (.inr (351, [.ref z0, .ref z1], st)))) else none := rfl
  rw [if_pos ⟨by simp [List.length_cons]; try omega, hs⟩] at h1
  exact Rs_call c394_1409 h1 rfl
theorem c394_1412 : qx_code 394 1412 = some (1412, .istore 6, 1414, 0, 0, 0) := by decide +kernel
theorem s394_1412i {L : Nat} {xs : Nat → Int32} {d x : Nat} {M : qxM} {st : List Value} {a0 a1 a2 a3 a4 a6 a7 a8 : Option Value} {z : Int32} {y : Int32} : Rs L xs (d) 394 1412 [a0, a1, a2, a3, a4, some (.int y), a6, a7, a8] (.int z :: st) M x = Rs L xs (d) 394 1414 [a0, a1, a2, a3, a4, some (.int y), some (.int z), a7, a8] st M x := Rs_next c394_1412 rfl
theorem c394_1414 : qx_code 394 1414 = some (1414, .aload_n 2, 1415, 0, 0, 0) := by decide +kernel
theorem s394_1414 {L : Nat} {xs : Nat → Int32} {d x : Nat} {M : qxM} {st : List Value} {a0 a1 a3 a4 a5 a6 a7 a8 : Option Value} {z : Nat} : Rs L xs (d) 394 1414 [a0, a1, some (.ref z), a3, a4, a5, a6, a7, a8] st M x = Rs L xs (d) 394 1415 [a0, a1, some (.ref z), a3, a4, a5, a6, a7, a8] (.ref z :: st) M x := Rs_next c394_1414 rfl
theorem c394_1415 : qx_code 394 1415 = some (1415, .invokevirtual 283, 1418, 269, 1, 1914) := by decide +kernel
theorem s394_1415 {L : Nat} {xs : Nat → Int32} {d x : Nat} {M : qxM} {st : List Value} {ls : qxL} {t : Nat} (hk : qx_kd t = 18) (hs : st.length ≤ 4) : Rs L xs (d + 1) 394 1415 ls (.ref t :: st) M x = (Rs L xs d 269 0 [some (.ref t)] [] M 0).bind (qx_kn L xs (d + 1) 394 1415 1418 269 ls st x) := by
  have h1 : qx_act L xs (qx_rt 394) (1415, .invokevirtual 283, 1418, 269, 1, 1914) ls (.ref t :: st) M = if 1 ≤ (.ref t :: st).length ∧ st.length ≤ 4 then some (.inr (.inr (.inr (269, [.ref t], st)))) else none := rfl
  rw [if_pos ⟨by simp [List.length_cons]; try omega, hs⟩] at h1
  have h2 := qx_kd_obj (k := 8) (by decide) hk
  exact Rs_call c394_1415 h1 (by rw [show qx_args 269 [.ref t] = decide (qx_sh t = some (.inl 8)) from rfl]; exact decide_eq_true h2)
theorem c394_1418 : qx_code 394 1418 = some (1418, .istore 7, 1420, 0, 0, 0) := by decide +kernel
theorem s394_1418i {L : Nat} {xs : Nat → Int32} {d x : Nat} {M : qxM} {st : List Value} {a0 a1 a2 a3 a4 a5 a7 a8 : Option Value} {z : Int32} {y : Int32} : Rs L xs (d) 394 1418 [a0, a1, a2, a3, a4, a5, some (.int y), a7, a8] (.int z :: st) M x = Rs L xs (d) 394 1420 [a0, a1, a2, a3, a4, a5, some (.int y), some (.int z), a8] st M x := Rs_next c394_1418 rfl
theorem c394_1420 : qx_code 394 1420 = some (1420, .aload_n 2, 1421, 0, 0, 0) := by decide +kernel
theorem s394_1420 {L : Nat} {xs : Nat → Int32} {d x : Nat} {M : qxM} {st : List Value} {a0 a1 a3 a4 a5 a6 a7 a8 : Option Value} {z : Nat} : Rs L xs (d) 394 1420 [a0, a1, some (.ref z), a3, a4, a5, a6, a7, a8] st M x = Rs L xs (d) 394 1421 [a0, a1, some (.ref z), a3, a4, a5, a6, a7, a8] (.ref z :: st) M x := Rs_next c394_1420 rfl
theorem c394_1421 : qx_code 394 1421 = some (1421, .invokevirtual 218, 1424, 177, 1, 1613) := by decide +kernel
theorem s394_1421 {L : Nat} {xs : Nat → Int32} {d x : Nat} {M : qxM} {st : List Value} {ls : qxL} {t : Nat} (hk : qx_kd t = 18) (hs : st.length ≤ 4) : Rs L xs (d + 1) 394 1421 ls (.ref t :: st) M x = (Rs L xs d 177 0 [some (.ref t)] [] M 0).bind (qx_kn L xs (d + 1) 394 1421 1424 177 ls st x) := by
  have h1 : qx_act L xs (qx_rt 394) (1421, .invokevirtual 218, 1424, 177, 1, 1613) ls (.ref t :: st) M = if 1 ≤ (.ref t :: st).length ∧ st.length ≤ 4 then some (.inr (.inr (.inr (177, [.ref t], st)))) else none := rfl
  rw [if_pos ⟨by simp [List.length_cons]; try omega, hs⟩] at h1
  have h2 := qx_kd_obj (k := 8) (by decide) hk
  exact Rs_call c394_1421 h1 (by rw [show qx_args 177 [.ref t] = decide (qx_sh t = some (.inl 8)) from rfl]; exact decide_eq_true h2)
theorem c394_1424 : qx_code 394 1424 = some (1424, .iload 6, 1426, 0, 0, 0) := by decide +kernel
theorem s394_1424 {L : Nat} {xs : Nat → Int32} {d x : Nat} {M : qxM} {st : List Value} {a0 a1 a2 a3 a4 a5 a7 a8 : Option Value} {z : Int32} : Rs L xs (d) 394 1424 [a0, a1, a2, a3, a4, a5, some (.int z), a7, a8] st M x = Rs L xs (d) 394 1426 [a0, a1, a2, a3, a4, a5, some (.int z), a7, a8] (.int z :: st) M x := Rs_next c394_1424 rfl
theorem c394_1426 : qx_code 394 1426 = some (1426, .if_icmp .eq 5, 1429, 1431, 0, 0) := by decide +kernel
theorem s394_1426 {L : Nat} {xs : Nat → Int32} {d x : Nat} {M : qxM} {st : List Value} {ls : qxL} {z y : Int32} : Rs L xs (d) 394 1426 ls (.int y :: .int z :: st) M x = if z = y then Rs L xs (d) 394 1431 ls st M x else Rs L xs (d) 394 1429 ls st M x := Rs_ite c394_1426 rfl
theorem c394_1431 : qx_code 394 1431 = some (1431, .iload 6, 1433, 0, 0, 0) := by decide +kernel
theorem s394_1431 {L : Nat} {xs : Nat → Int32} {d x : Nat} {M : qxM} {st : List Value} {a0 a1 a2 a3 a4 a5 a7 a8 : Option Value} {z : Int32} : Rs L xs (d) 394 1431 [a0, a1, a2, a3, a4, a5, some (.int z), a7, a8] st M x = Rs L xs (d) 394 1433 [a0, a1, a2, a3, a4, a5, some (.int z), a7, a8] (.int z :: st) M x := Rs_next c394_1431 rfl
theorem c394_1433 : qx_code 394 1433 = some (1433, .ifCond .ne 15, 1436, 1448, 0, 0) := by decide +kernel
theorem s394_1433 {L : Nat} {xs : Nat → Int32} {d x : Nat} {M : qxM} {st : List Value} {ls : qxL} {z : Int32} : Rs L xs (d) 394 1433 ls (.int z :: st) M x = if z = 0 then Rs L xs (d) 394 1436 ls st M x else Rs L xs (d) 394 1448 ls st M x := Rs_ite c394_1433 rfl
theorem c394_1436 : qx_code 394 1436 = some (1436, .aload_n 3, 1437, 0, 0, 0) := by decide +kernel
theorem s394_1436 {L : Nat} {xs : Nat → Int32} {d x : Nat} {M : qxM} {st : List Value} {a0 a1 a2 a4 a5 a6 a7 a8 : Option Value} {z : Nat} : Rs L xs (d) 394 1436 [a0, a1, a2, some (.ref z), a4, a5, a6, a7, a8] st M x = Rs L xs (d) 394 1437 [a0, a1, a2, some (.ref z), a4, a5, a6, a7, a8] (.ref z :: st) M x := Rs_next c394_1436 rfl
theorem c394_1437 : qx_code 394 1437 = some (1437, .iconst 0, 1438, 0, 0, 0) := by decide +kernel
theorem s394_1437 {L : Nat} {xs : Nat → Int32} {d x : Nat} {M : qxM} {st : List Value} {ls : qxL} : Rs L xs (d) 394 1437 ls st M x = Rs L xs (d) 394 1438 ls (.int (nI 0) :: st) M x := Rs_next c394_1437 rfl
theorem c394_1438 : qx_code 394 1438 = some (1438, .laload, 1439, 0, 0, 0) := by decide +kernel
theorem s394_1438 {L : Nat} {xs : Nat → Int32} {d x : Nat} {M : qxM} {st : List Value} {ls : qxL} {t : Nat} {j : Int32} (hk : qx_kd t = 4) (hj : qx_ib j (qx_ln t) = true) : Rs L xs (d) 394 1438 ls (.int j :: .ref t :: st) M x = Rs L xs (d) 394 1439 ls (.long (M.2.1 j.toNatClampNeg) :: st) M x := by
  have h1 := qx_kd_row (k := 4) (by decide) hk
  exact Rs_unless (qx_ib_not hj) c394_1438 (by unfold qx_act; dsimp only; rw [h1]; rfl)
theorem c394_1439 : qx_code 394 1439 = some (1439, .iload 7, 1441, 0, 0, 0) := by decide +kernel
theorem s394_1439 {L : Nat} {xs : Nat → Int32} {d x : Nat} {M : qxM} {st : List Value} {a0 a1 a2 a3 a4 a5 a6 a8 : Option Value} {z : Int32} : Rs L xs (d) 394 1439 [a0, a1, a2, a3, a4, a5, a6, some (.int z), a8] st M x = Rs L xs (d) 394 1441 [a0, a1, a2, a3, a4, a5, a6, some (.int z), a8] (.int z :: st) M x := Rs_next c394_1439 rfl
theorem c394_1441 : qx_code 394 1441 = some (1441, .i2l, 1442, 0, 0, 0) := by decide +kernel
theorem s394_1441 {L : Nat} {xs : Nat → Int32} {d x : Nat} {M : qxM} {st : List Value} {ls : qxL} {z : Int32} : Rs L xs (d) 394 1441 ls (.int z :: st) M x = Rs L xs (d) 394 1442 ls (.long z.toInt64 :: st) M x := Rs_next c394_1441 rfl
theorem c394_1442 : qx_code 394 1442 = some (1442, .lcmp, 1443, 0, 0, 0) := by decide +kernel
theorem s394_1442 {L : Nat} {xs : Nat → Int32} {d x : Nat} {M : qxM} {st : List Value} {ls : qxL} {z y : Int64} : Rs L xs (d) 394 1442 ls (.long y :: .long z :: st) M x = Rs L xs (d) 394 1443 ls (.int (lg_cmp z y) :: st) M x := Rs_next c394_1442 rfl
theorem c394_1443 : qx_code 394 1443 = some (1443, .ifCond .eq 5, 1446, 1448, 0, 0) := by decide +kernel
theorem s394_1443 {L : Nat} {xs : Nat → Int32} {d x : Nat} {M : qxM} {st : List Value} {ls : qxL} {z : Int32} : Rs L xs (d) 394 1443 ls (.int z :: st) M x = if z = 0 then Rs L xs (d) 394 1448 ls st M x else Rs L xs (d) 394 1446 ls st M x := Rs_ite c394_1443 rfl
theorem c394_1448 : qx_code 394 1448 = some (1448, .goto 2298, 1451, 3746, 0, 0) := by decide +kernel
theorem s394_1448 {L : Nat} {xs : Nat → Int32} {d x : Nat} {M : qxM} {st : List Value} {ls : qxL} : Rs L xs (d) 394 1448 ls st M x = Rs L xs (d) 394 3746 ls st M x := Rs_next c394_1448 rfl
theorem c394_1451 : qx_code 394 1451 = some (1451, .aload_n 1, 1452, 0, 0, 0) := by decide +kernel
theorem s394_1451 {L : Nat} {xs : Nat → Int32} {d x : Nat} {M : qxM} {st : List Value} {a0 a2 a3 a4 a5 a6 a7 a8 : Option Value} {z : Nat} : Rs L xs (d) 394 1451 [a0, some (.ref z), a2, a3, a4, a5, a6, a7, a8] st M x = Rs L xs (d) 394 1452 [a0, some (.ref z), a2, a3, a4, a5, a6, a7, a8] (.ref z :: st) M x := Rs_next c394_1451 rfl
theorem c394_1452 : qx_code 394 1452 = some (1452, .aload_n 3, 1453, 0, 0, 0) := by decide +kernel
theorem s394_1452 {L : Nat} {xs : Nat → Int32} {d x : Nat} {M : qxM} {st : List Value} {a0 a1 a2 a4 a5 a6 a7 a8 : Option Value} {z : Nat} : Rs L xs (d) 394 1452 [a0, a1, a2, some (.ref z), a4, a5, a6, a7, a8] st M x = Rs L xs (d) 394 1453 [a0, a1, a2, some (.ref z), a4, a5, a6, a7, a8] (.ref z :: st) M x := Rs_next c394_1452 rfl
theorem c394_1453 : qx_code 394 1453 = some (1453, .invokestatic 284, 1456, 352, 2, 969) := by decide +kernel
theorem s394_1453 {L : Nat} {xs : Nat → Int32} {d x : Nat} {M : qxM} {st : List Value} {ls : qxL} {z0 : Nat} {z1 : Nat} (hs : st.length ≤ 4) : Rs L xs (d + 1) 394 1453 ls (.ref z1 :: .ref z0 :: st) M x = (Rs L xs d 352 0 [some (.ref z0), some (.ref z1), none] [] M 0).bind (qx_kn L xs (d + 1) 394 1453 1456 352 ls st x) := by
  have h1 : qx_act L xs (qx_rt 394) (1453, .invokestatic 284, 1456, 352, 2, 969) ls (.ref z1 :: .ref z0 :: st) M = if 2 ≤ (.ref z1 :: .ref z0 :: st).length ∧ st.length ≤ 4 then some (.inr (.inr (.inr (352, [.ref z0, .ref z1], st)))) else none := rfl
  rw [if_pos ⟨by simp [List.length_cons]; try omega, hs⟩] at h1
  exact Rs_call c394_1453 h1 rfl
theorem c394_1456 : qx_code 394 1456 = some (1456, .istore 6, 1458, 0, 0, 0) := by decide +kernel
theorem s394_1456i {L : Nat} {xs : Nat → Int32} {d x : Nat} {M : qxM} {st : List Value} {a0 a1 a2 a3 a4 a6 a7 a8 : Option Value} {z : Int32} {y : Int32} : Rs L xs (d) 394 1456 [a0, a1, a2, a3, a4, some (.int y), a6, a7, a8] (.int z :: st) M x = Rs L xs (d) 394 1458 [a0, a1, a2, a3, a4, some (.int y), some (.int z), a7, a8] st M x := Rs_next c394_1456 rfl
theorem c394_1458 : qx_code 394 1458 = some (1458, .aload_n 2, 1459, 0, 0, 0) := by decide +kernel
theorem s394_1458 {L : Nat} {xs : Nat → Int32} {d x : Nat} {M : qxM} {st : List Value} {a0 a1 a3 a4 a5 a6 a7 a8 : Option Value} {z : Nat} : Rs L xs (d) 394 1458 [a0, a1, some (.ref z), a3, a4, a5, a6, a7, a8] st M x = Rs L xs (d) 394 1459 [a0, a1, some (.ref z), a3, a4, a5, a6, a7, a8] (.ref z :: st) M x := Rs_next c394_1458 rfl
theorem c394_1459 : qx_code 394 1459 = some (1459, .invokevirtual 286, 1462, 278, 1, 1918) := by decide +kernel
theorem s394_1459 {L : Nat} {xs : Nat → Int32} {d x : Nat} {M : qxM} {st : List Value} {ls : qxL} {t : Nat} (hk : qx_kd t = 18) (hs : st.length ≤ 4) : Rs L xs (d + 1) 394 1459 ls (.ref t :: st) M x = (Rs L xs d 278 0 [some (.ref t)] [] M 0).bind (qx_kn L xs (d + 1) 394 1459 1462 278 ls st x) := by
  have h1 : qx_act L xs (qx_rt 394) (1459, .invokevirtual 286, 1462, 278, 1, 1918) ls (.ref t :: st) M = if 1 ≤ (.ref t :: st).length ∧ st.length ≤ 4 then some (.inr (.inr (.inr (278, [.ref t], st)))) else none := rfl
  rw [if_pos ⟨by simp [List.length_cons]; try omega, hs⟩] at h1
  have h2 := qx_kd_obj (k := 8) (by decide) hk
  exact Rs_call c394_1459 h1 (by rw [show qx_args 278 [.ref t] = decide (qx_sh t = some (.inl 8)) from rfl]; exact decide_eq_true h2)
theorem c394_1462 : qx_code 394 1462 = some (1462, .istore 7, 1464, 0, 0, 0) := by decide +kernel
theorem s394_1462i {L : Nat} {xs : Nat → Int32} {d x : Nat} {M : qxM} {st : List Value} {a0 a1 a2 a3 a4 a5 a7 a8 : Option Value} {z : Int32} {y : Int32} : Rs L xs (d) 394 1462 [a0, a1, a2, a3, a4, a5, some (.int y), a7, a8] (.int z :: st) M x = Rs L xs (d) 394 1464 [a0, a1, a2, a3, a4, a5, some (.int y), some (.int z), a8] st M x := Rs_next c394_1462 rfl
theorem c394_1464 : qx_code 394 1464 = some (1464, .aload_n 2, 1465, 0, 0, 0) := by decide +kernel
theorem s394_1464 {L : Nat} {xs : Nat → Int32} {d x : Nat} {M : qxM} {st : List Value} {a0 a1 a3 a4 a5 a6 a7 a8 : Option Value} {z : Nat} : Rs L xs (d) 394 1464 [a0, a1, some (.ref z), a3, a4, a5, a6, a7, a8] st M x = Rs L xs (d) 394 1465 [a0, a1, some (.ref z), a3, a4, a5, a6, a7, a8] (.ref z :: st) M x := Rs_next c394_1464 rfl
theorem c394_1465 : qx_code 394 1465 = some (1465, .invokevirtual 218, 1468, 177, 1, 1613) := by decide +kernel
theorem s394_1465 {L : Nat} {xs : Nat → Int32} {d x : Nat} {M : qxM} {st : List Value} {ls : qxL} {t : Nat} (hk : qx_kd t = 18) (hs : st.length ≤ 4) : Rs L xs (d + 1) 394 1465 ls (.ref t :: st) M x = (Rs L xs d 177 0 [some (.ref t)] [] M 0).bind (qx_kn L xs (d + 1) 394 1465 1468 177 ls st x) := by
  have h1 : qx_act L xs (qx_rt 394) (1465, .invokevirtual 218, 1468, 177, 1, 1613) ls (.ref t :: st) M = if 1 ≤ (.ref t :: st).length ∧ st.length ≤ 4 then some (.inr (.inr (.inr (177, [.ref t], st)))) else none := rfl
  rw [if_pos ⟨by simp [List.length_cons]; try omega, hs⟩] at h1
  have h2 := qx_kd_obj (k := 8) (by decide) hk
  exact Rs_call c394_1465 h1 (by rw [show qx_args 177 [.ref t] = decide (qx_sh t = some (.inl 8)) from rfl]; exact decide_eq_true h2)
theorem c394_1468 : qx_code 394 1468 = some (1468, .iload 6, 1470, 0, 0, 0) := by decide +kernel
theorem s394_1468 {L : Nat} {xs : Nat → Int32} {d x : Nat} {M : qxM} {st : List Value} {a0 a1 a2 a3 a4 a5 a7 a8 : Option Value} {z : Int32} : Rs L xs (d) 394 1468 [a0, a1, a2, a3, a4, a5, some (.int z), a7, a8] st M x = Rs L xs (d) 394 1470 [a0, a1, a2, a3, a4, a5, some (.int z), a7, a8] (.int z :: st) M x := Rs_next c394_1468 rfl
theorem c394_1470 : qx_code 394 1470 = some (1470, .if_icmp .eq 5, 1473, 1475, 0, 0) := by decide +kernel
theorem s394_1470 {L : Nat} {xs : Nat → Int32} {d x : Nat} {M : qxM} {st : List Value} {ls : qxL} {z y : Int32} : Rs L xs (d) 394 1470 ls (.int y :: .int z :: st) M x = if z = y then Rs L xs (d) 394 1475 ls st M x else Rs L xs (d) 394 1473 ls st M x := Rs_ite c394_1470 rfl
theorem c394_1475 : qx_code 394 1475 = some (1475, .iload 6, 1477, 0, 0, 0) := by decide +kernel
theorem s394_1475 {L : Nat} {xs : Nat → Int32} {d x : Nat} {M : qxM} {st : List Value} {a0 a1 a2 a3 a4 a5 a7 a8 : Option Value} {z : Int32} : Rs L xs (d) 394 1475 [a0, a1, a2, a3, a4, a5, some (.int z), a7, a8] st M x = Rs L xs (d) 394 1477 [a0, a1, a2, a3, a4, a5, some (.int z), a7, a8] (.int z :: st) M x := Rs_next c394_1475 rfl
theorem c394_1477 : qx_code 394 1477 = some (1477, .ifCond .ne 15, 1480, 1492, 0, 0) := by decide +kernel
theorem s394_1477 {L : Nat} {xs : Nat → Int32} {d x : Nat} {M : qxM} {st : List Value} {ls : qxL} {z : Int32} : Rs L xs (d) 394 1477 ls (.int z :: st) M x = if z = 0 then Rs L xs (d) 394 1480 ls st M x else Rs L xs (d) 394 1492 ls st M x := Rs_ite c394_1477 rfl
theorem c394_1480 : qx_code 394 1480 = some (1480, .aload_n 3, 1481, 0, 0, 0) := by decide +kernel
theorem s394_1480 {L : Nat} {xs : Nat → Int32} {d x : Nat} {M : qxM} {st : List Value} {a0 a1 a2 a4 a5 a6 a7 a8 : Option Value} {z : Nat} : Rs L xs (d) 394 1480 [a0, a1, a2, some (.ref z), a4, a5, a6, a7, a8] st M x = Rs L xs (d) 394 1481 [a0, a1, a2, some (.ref z), a4, a5, a6, a7, a8] (.ref z :: st) M x := Rs_next c394_1480 rfl
theorem c394_1481 : qx_code 394 1481 = some (1481, .iconst 0, 1482, 0, 0, 0) := by decide +kernel
theorem s394_1481 {L : Nat} {xs : Nat → Int32} {d x : Nat} {M : qxM} {st : List Value} {ls : qxL} : Rs L xs (d) 394 1481 ls st M x = Rs L xs (d) 394 1482 ls (.int (nI 0) :: st) M x := Rs_next c394_1481 rfl
theorem c394_1482 : qx_code 394 1482 = some (1482, .laload, 1483, 0, 0, 0) := by decide +kernel
theorem s394_1482 {L : Nat} {xs : Nat → Int32} {d x : Nat} {M : qxM} {st : List Value} {ls : qxL} {t : Nat} {j : Int32} (hk : qx_kd t = 4) (hj : qx_ib j (qx_ln t) = true) : Rs L xs (d) 394 1482 ls (.int j :: .ref t :: st) M x = Rs L xs (d) 394 1483 ls (.long (M.2.1 j.toNatClampNeg) :: st) M x := by
  have h1 := qx_kd_row (k := 4) (by decide) hk
  exact Rs_unless (qx_ib_not hj) c394_1482 (by unfold qx_act; dsimp only; rw [h1]; rfl)
theorem c394_1483 : qx_code 394 1483 = some (1483, .iload 7, 1485, 0, 0, 0) := by decide +kernel
theorem s394_1483 {L : Nat} {xs : Nat → Int32} {d x : Nat} {M : qxM} {st : List Value} {a0 a1 a2 a3 a4 a5 a6 a8 : Option Value} {z : Int32} : Rs L xs (d) 394 1483 [a0, a1, a2, a3, a4, a5, a6, some (.int z), a8] st M x = Rs L xs (d) 394 1485 [a0, a1, a2, a3, a4, a5, a6, some (.int z), a8] (.int z :: st) M x := Rs_next c394_1483 rfl
theorem c394_1485 : qx_code 394 1485 = some (1485, .i2l, 1486, 0, 0, 0) := by decide +kernel
theorem s394_1485 {L : Nat} {xs : Nat → Int32} {d x : Nat} {M : qxM} {st : List Value} {ls : qxL} {z : Int32} : Rs L xs (d) 394 1485 ls (.int z :: st) M x = Rs L xs (d) 394 1486 ls (.long z.toInt64 :: st) M x := Rs_next c394_1485 rfl
theorem c394_1486 : qx_code 394 1486 = some (1486, .lcmp, 1487, 0, 0, 0) := by decide +kernel
theorem s394_1486 {L : Nat} {xs : Nat → Int32} {d x : Nat} {M : qxM} {st : List Value} {ls : qxL} {z y : Int64} : Rs L xs (d) 394 1486 ls (.long y :: .long z :: st) M x = Rs L xs (d) 394 1487 ls (.int (lg_cmp z y) :: st) M x := Rs_next c394_1486 rfl
theorem c394_1487 : qx_code 394 1487 = some (1487, .ifCond .eq 5, 1490, 1492, 0, 0) := by decide +kernel
theorem s394_1487 {L : Nat} {xs : Nat → Int32} {d x : Nat} {M : qxM} {st : List Value} {ls : qxL} {z : Int32} : Rs L xs (d) 394 1487 ls (.int z :: st) M x = if z = 0 then Rs L xs (d) 394 1492 ls st M x else Rs L xs (d) 394 1490 ls st M x := Rs_ite c394_1487 rfl
theorem c394_1492 : qx_code 394 1492 = some (1492, .goto 2254, 1495, 3746, 0, 0) := by decide +kernel
theorem s394_1492 {L : Nat} {xs : Nat → Int32} {d x : Nat} {M : qxM} {st : List Value} {ls : qxL} : Rs L xs (d) 394 1492 ls st M x = Rs L xs (d) 394 3746 ls st M x := Rs_next c394_1492 rfl
theorem c394_1495 : qx_code 394 1495 = some (1495, .aload_n 1, 1496, 0, 0, 0) := by decide +kernel
theorem s394_1495 {L : Nat} {xs : Nat → Int32} {d x : Nat} {M : qxM} {st : List Value} {a0 a2 a3 a4 a5 a6 a7 a8 : Option Value} {z : Nat} : Rs L xs (d) 394 1495 [a0, some (.ref z), a2, a3, a4, a5, a6, a7, a8] st M x = Rs L xs (d) 394 1496 [a0, some (.ref z), a2, a3, a4, a5, a6, a7, a8] (.ref z :: st) M x := Rs_next c394_1495 rfl
theorem c394_1496 : qx_code 394 1496 = some (1496, .aload_n 3, 1497, 0, 0, 0) := by decide +kernel
theorem s394_1496 {L : Nat} {xs : Nat → Int32} {d x : Nat} {M : qxM} {st : List Value} {a0 a1 a2 a4 a5 a6 a7 a8 : Option Value} {z : Nat} : Rs L xs (d) 394 1496 [a0, a1, a2, some (.ref z), a4, a5, a6, a7, a8] st M x = Rs L xs (d) 394 1497 [a0, a1, a2, some (.ref z), a4, a5, a6, a7, a8] (.ref z :: st) M x := Rs_next c394_1496 rfl
theorem c394_1497 : qx_code 394 1497 = some (1497, .invokestatic 287, 1500, 353, 2, 1015) := by decide +kernel
theorem s394_1497 {L : Nat} {xs : Nat → Int32} {d x : Nat} {M : qxM} {st : List Value} {ls : qxL} {z0 : Nat} {z1 : Nat} (hs : st.length ≤ 4) : Rs L xs (d + 1) 394 1497 ls (.ref z1 :: .ref z0 :: st) M x = (Rs L xs d 353 0 [some (.ref z0), some (.ref z1), none] [] M 0).bind (qx_kn L xs (d + 1) 394 1497 1500 353 ls st x) := by
  have h1 : qx_act L xs (qx_rt 394) (1497, .invokestatic 287, 1500, 353, 2, 1015) ls (.ref z1 :: .ref z0 :: st) M = if 2 ≤ (.ref z1 :: .ref z0 :: st).length ∧ st.length ≤ 4 then some (.inr (.inr (.inr (353, [.ref z0, .ref z1], st)))) else none := rfl
  rw [if_pos ⟨by simp [List.length_cons]; try omega, hs⟩] at h1
  exact Rs_call c394_1497 h1 rfl
theorem c394_1500 : qx_code 394 1500 = some (1500, .istore 6, 1502, 0, 0, 0) := by decide +kernel
theorem s394_1500i {L : Nat} {xs : Nat → Int32} {d x : Nat} {M : qxM} {st : List Value} {a0 a1 a2 a3 a4 a6 a7 a8 : Option Value} {z : Int32} {y : Int32} : Rs L xs (d) 394 1500 [a0, a1, a2, a3, a4, some (.int y), a6, a7, a8] (.int z :: st) M x = Rs L xs (d) 394 1502 [a0, a1, a2, a3, a4, some (.int y), some (.int z), a7, a8] st M x := Rs_next c394_1500 rfl
theorem c394_1502 : qx_code 394 1502 = some (1502, .aload_n 2, 1503, 0, 0, 0) := by decide +kernel
theorem s394_1502 {L : Nat} {xs : Nat → Int32} {d x : Nat} {M : qxM} {st : List Value} {a0 a1 a3 a4 a5 a6 a7 a8 : Option Value} {z : Nat} : Rs L xs (d) 394 1502 [a0, a1, some (.ref z), a3, a4, a5, a6, a7, a8] st M x = Rs L xs (d) 394 1503 [a0, a1, some (.ref z), a3, a4, a5, a6, a7, a8] (.ref z :: st) M x := Rs_next c394_1502 rfl
theorem c394_1503 : qx_code 394 1503 = some (1503, .invokevirtual 289, 1506, 279, 1, 1934) := by decide +kernel
theorem s394_1503 {L : Nat} {xs : Nat → Int32} {d x : Nat} {M : qxM} {st : List Value} {ls : qxL} {t : Nat} (hk : qx_kd t = 18) (hs : st.length ≤ 4) : Rs L xs (d + 1) 394 1503 ls (.ref t :: st) M x = (Rs L xs d 279 0 [some (.ref t)] [] M 0).bind (qx_kn L xs (d + 1) 394 1503 1506 279 ls st x) := by
  have h1 : qx_act L xs (qx_rt 394) (1503, .invokevirtual 289, 1506, 279, 1, 1934) ls (.ref t :: st) M = if 1 ≤ (.ref t :: st).length ∧ st.length ≤ 4 then some (.inr (.inr (.inr (279, [.ref t], st)))) else none := rfl
  rw [if_pos ⟨by simp [List.length_cons]; try omega, hs⟩] at h1
  have h2 := qx_kd_obj (k := 8) (by decide) hk
  exact Rs_call c394_1503 h1 (by rw [show qx_args 279 [.ref t] = decide (qx_sh t = some (.inl 8)) from rfl]; exact decide_eq_true h2)
theorem c394_1506 : qx_code 394 1506 = some (1506, .istore 7, 1508, 0, 0, 0) := by decide +kernel
theorem s394_1506i {L : Nat} {xs : Nat → Int32} {d x : Nat} {M : qxM} {st : List Value} {a0 a1 a2 a3 a4 a5 a7 a8 : Option Value} {z : Int32} {y : Int32} : Rs L xs (d) 394 1506 [a0, a1, a2, a3, a4, a5, some (.int y), a7, a8] (.int z :: st) M x = Rs L xs (d) 394 1508 [a0, a1, a2, a3, a4, a5, some (.int y), some (.int z), a8] st M x := Rs_next c394_1506 rfl
theorem c394_1508 : qx_code 394 1508 = some (1508, .aload_n 2, 1509, 0, 0, 0) := by decide +kernel
theorem s394_1508 {L : Nat} {xs : Nat → Int32} {d x : Nat} {M : qxM} {st : List Value} {a0 a1 a3 a4 a5 a6 a7 a8 : Option Value} {z : Nat} : Rs L xs (d) 394 1508 [a0, a1, some (.ref z), a3, a4, a5, a6, a7, a8] st M x = Rs L xs (d) 394 1509 [a0, a1, some (.ref z), a3, a4, a5, a6, a7, a8] (.ref z :: st) M x := Rs_next c394_1508 rfl
theorem c394_1509 : qx_code 394 1509 = some (1509, .invokevirtual 218, 1512, 177, 1, 1613) := by decide +kernel
theorem s394_1509 {L : Nat} {xs : Nat → Int32} {d x : Nat} {M : qxM} {st : List Value} {ls : qxL} {t : Nat} (hk : qx_kd t = 18) (hs : st.length ≤ 4) : Rs L xs (d + 1) 394 1509 ls (.ref t :: st) M x = (Rs L xs d 177 0 [some (.ref t)] [] M 0).bind (qx_kn L xs (d + 1) 394 1509 1512 177 ls st x) := by
  have h1 : qx_act L xs (qx_rt 394) (1509, .invokevirtual 218, 1512, 177, 1, 1613) ls (.ref t :: st) M = if 1 ≤ (.ref t :: st).length ∧ st.length ≤ 4 then some (.inr (.inr (.inr (177, [.ref t], st)))) else none := rfl
  rw [if_pos ⟨by simp [List.length_cons]; try omega, hs⟩] at h1
  have h2 := qx_kd_obj (k := 8) (by decide) hk
  exact Rs_call c394_1509 h1 (by rw [show qx_args 177 [.ref t] = decide (qx_sh t = some (.inl 8)) from rfl]; exact decide_eq_true h2)
theorem c394_1512 : qx_code 394 1512 = some (1512, .iload 6, 1514, 0, 0, 0) := by decide +kernel
theorem s394_1512 {L : Nat} {xs : Nat → Int32} {d x : Nat} {M : qxM} {st : List Value} {a0 a1 a2 a3 a4 a5 a7 a8 : Option Value} {z : Int32} : Rs L xs (d) 394 1512 [a0, a1, a2, a3, a4, a5, some (.int z), a7, a8] st M x = Rs L xs (d) 394 1514 [a0, a1, a2, a3, a4, a5, some (.int z), a7, a8] (.int z :: st) M x := Rs_next c394_1512 rfl
theorem c394_1514 : qx_code 394 1514 = some (1514, .if_icmp .eq 5, 1517, 1519, 0, 0) := by decide +kernel
theorem s394_1514 {L : Nat} {xs : Nat → Int32} {d x : Nat} {M : qxM} {st : List Value} {ls : qxL} {z y : Int32} : Rs L xs (d) 394 1514 ls (.int y :: .int z :: st) M x = if z = y then Rs L xs (d) 394 1519 ls st M x else Rs L xs (d) 394 1517 ls st M x := Rs_ite c394_1514 rfl
theorem c394_1519 : qx_code 394 1519 = some (1519, .iload 6, 1521, 0, 0, 0) := by decide +kernel
theorem s394_1519 {L : Nat} {xs : Nat → Int32} {d x : Nat} {M : qxM} {st : List Value} {a0 a1 a2 a3 a4 a5 a7 a8 : Option Value} {z : Int32} : Rs L xs (d) 394 1519 [a0, a1, a2, a3, a4, a5, some (.int z), a7, a8] st M x = Rs L xs (d) 394 1521 [a0, a1, a2, a3, a4, a5, some (.int z), a7, a8] (.int z :: st) M x := Rs_next c394_1519 rfl
theorem c394_1521 : qx_code 394 1521 = some (1521, .ifCond .ne 22, 1524, 1543, 0, 0) := by decide +kernel
theorem s394_1521 {L : Nat} {xs : Nat → Int32} {d x : Nat} {M : qxM} {st : List Value} {ls : qxL} {z : Int32} : Rs L xs (d) 394 1521 ls (.int z :: st) M x = if z = 0 then Rs L xs (d) 394 1524 ls st M x else Rs L xs (d) 394 1543 ls st M x := Rs_ite c394_1521 rfl
theorem c394_1524 : qx_code 394 1524 = some (1524, .aload_n 3, 1525, 0, 0, 0) := by decide +kernel
theorem s394_1524 {L : Nat} {xs : Nat → Int32} {d x : Nat} {M : qxM} {st : List Value} {a0 a1 a2 a4 a5 a6 a7 a8 : Option Value} {z : Nat} : Rs L xs (d) 394 1524 [a0, a1, a2, some (.ref z), a4, a5, a6, a7, a8] st M x = Rs L xs (d) 394 1525 [a0, a1, a2, some (.ref z), a4, a5, a6, a7, a8] (.ref z :: st) M x := Rs_next c394_1524 rfl
theorem c394_1525 : qx_code 394 1525 = some (1525, .iconst 0, 1526, 0, 0, 0) := by decide +kernel
theorem s394_1525 {L : Nat} {xs : Nat → Int32} {d x : Nat} {M : qxM} {st : List Value} {ls : qxL} : Rs L xs (d) 394 1525 ls st M x = Rs L xs (d) 394 1526 ls (.int (nI 0) :: st) M x := Rs_next c394_1525 rfl
theorem c394_1526 : qx_code 394 1526 = some (1526, .laload, 1527, 0, 0, 0) := by decide +kernel
theorem s394_1526 {L : Nat} {xs : Nat → Int32} {d x : Nat} {M : qxM} {st : List Value} {ls : qxL} {t : Nat} {j : Int32} (hk : qx_kd t = 4) (hj : qx_ib j (qx_ln t) = true) : Rs L xs (d) 394 1526 ls (.int j :: .ref t :: st) M x = Rs L xs (d) 394 1527 ls (.long (M.2.1 j.toNatClampNeg) :: st) M x := by
  have h1 := qx_kd_row (k := 4) (by decide) hk
  exact Rs_unless (qx_ib_not hj) c394_1526 (by unfold qx_act; dsimp only; rw [h1]; rfl)
theorem c394_1527 : qx_code 394 1527 = some (1527, .iload 7, 1529, 0, 0, 0) := by decide +kernel
theorem s394_1527 {L : Nat} {xs : Nat → Int32} {d x : Nat} {M : qxM} {st : List Value} {a0 a1 a2 a3 a4 a5 a6 a8 : Option Value} {z : Int32} : Rs L xs (d) 394 1527 [a0, a1, a2, a3, a4, a5, a6, some (.int z), a8] st M x = Rs L xs (d) 394 1529 [a0, a1, a2, a3, a4, a5, a6, some (.int z), a8] (.int z :: st) M x := Rs_next c394_1527 rfl
theorem c394_1529 : qx_code 394 1529 = some (1529, .ifCond .eq 7, 1532, 1536, 0, 0) := by decide +kernel
theorem s394_1529 {L : Nat} {xs : Nat → Int32} {d x : Nat} {M : qxM} {st : List Value} {ls : qxL} {z : Int32} : Rs L xs (d) 394 1529 ls (.int z :: st) M x = if z = 0 then Rs L xs (d) 394 1536 ls st M x else Rs L xs (d) 394 1532 ls st M x := Rs_ite c394_1529 rfl
theorem c394_1532 : qx_code 394 1532 = some (1532, .lconst 1, 1533, 0, 0, 0) := by decide +kernel
theorem s394_1532 {L : Nat} {xs : Nat → Int32} {d x : Nat} {M : qxM} {st : List Value} {ls : qxL} : Rs L xs (d) 394 1532 ls st M x = Rs L xs (d) 394 1533 ls (.long (Int64.ofNat 1) :: st) M x := Rs_next c394_1532 rfl
theorem c394_1533 : qx_code 394 1533 = some (1533, .goto 4, 1536, 1537, 0, 0) := by decide +kernel
theorem s394_1533 {L : Nat} {xs : Nat → Int32} {d x : Nat} {M : qxM} {st : List Value} {ls : qxL} : Rs L xs (d) 394 1533 ls st M x = Rs L xs (d) 394 1537 ls st M x := Rs_next c394_1533 rfl
theorem c394_1536 : qx_code 394 1536 = some (1536, .lconst 0, 1537, 0, 0, 0) := by decide +kernel
theorem s394_1536 {L : Nat} {xs : Nat → Int32} {d x : Nat} {M : qxM} {st : List Value} {ls : qxL} : Rs L xs (d) 394 1536 ls st M x = Rs L xs (d) 394 1537 ls (.long (Int64.ofNat 0) :: st) M x := Rs_next c394_1536 rfl
theorem c394_1537 : qx_code 394 1537 = some (1537, .lcmp, 1538, 0, 0, 0) := by decide +kernel
theorem s394_1537 {L : Nat} {xs : Nat → Int32} {d x : Nat} {M : qxM} {st : List Value} {ls : qxL} {z y : Int64} : Rs L xs (d) 394 1537 ls (.long y :: .long z :: st) M x = Rs L xs (d) 394 1538 ls (.int (lg_cmp z y) :: st) M x := Rs_next c394_1537 rfl
theorem c394_1538 : qx_code 394 1538 = some (1538, .ifCond .eq 5, 1541, 1543, 0, 0) := by decide +kernel
theorem s394_1538 {L : Nat} {xs : Nat → Int32} {d x : Nat} {M : qxM} {st : List Value} {ls : qxL} {z : Int32} : Rs L xs (d) 394 1538 ls (.int z :: st) M x = if z = 0 then Rs L xs (d) 394 1543 ls st M x else Rs L xs (d) 394 1541 ls st M x := Rs_ite c394_1538 rfl
theorem c394_1543 : qx_code 394 1543 = some (1543, .goto 2203, 1546, 3746, 0, 0) := by decide +kernel
theorem s394_1543 {L : Nat} {xs : Nat → Int32} {d x : Nat} {M : qxM} {st : List Value} {ls : qxL} : Rs L xs (d) 394 1543 ls st M x = Rs L xs (d) 394 3746 ls st M x := Rs_next c394_1543 rfl
theorem c394_1546 : qx_code 394 1546 = some (1546, .aload_n 1, 1547, 0, 0, 0) := by decide +kernel
theorem s394_1546 {L : Nat} {xs : Nat → Int32} {d x : Nat} {M : qxM} {st : List Value} {a0 a2 a3 a4 a5 a6 a7 a8 : Option Value} {z : Nat} : Rs L xs (d) 394 1546 [a0, some (.ref z), a2, a3, a4, a5, a6, a7, a8] st M x = Rs L xs (d) 394 1547 [a0, some (.ref z), a2, a3, a4, a5, a6, a7, a8] (.ref z :: st) M x := Rs_next c394_1546 rfl
theorem c394_1547 : qx_code 394 1547 = some (1547, .aload_n 3, 1548, 0, 0, 0) := by decide +kernel
theorem s394_1547 {L : Nat} {xs : Nat → Int32} {d x : Nat} {M : qxM} {st : List Value} {a0 a1 a2 a4 a5 a6 a7 a8 : Option Value} {z : Nat} : Rs L xs (d) 394 1547 [a0, a1, a2, some (.ref z), a4, a5, a6, a7, a8] st M x = Rs L xs (d) 394 1548 [a0, a1, a2, some (.ref z), a4, a5, a6, a7, a8] (.ref z :: st) M x := Rs_next c394_1547 rfl
theorem c394_1548 : qx_code 394 1548 = some (1548, .invokestatic 290, 1551, 354, 2, 1022) := by decide +kernel
theorem s394_1548 {L : Nat} {xs : Nat → Int32} {d x : Nat} {M : qxM} {st : List Value} {ls : qxL} {z0 : Nat} {z1 : Nat} (hs : st.length ≤ 4) : Rs L xs (d + 1) 394 1548 ls (.ref z1 :: .ref z0 :: st) M x = (Rs L xs d 354 0 [some (.ref z0), some (.ref z1), none] [] M 0).bind (qx_kn L xs (d + 1) 394 1548 1551 354 ls st x) := by
  have h1 : qx_act L xs (qx_rt 394) (1548, .invokestatic 290, 1551, 354, 2, 1022) ls (.ref z1 :: .ref z0 :: st) M = if 2 ≤ (.ref z1 :: .ref z0 :: st).length ∧ st.length ≤ 4 then some (.inr (.inr (.inr (354, [.ref z0, .ref z1], st)))) else none := rfl
  rw [if_pos ⟨by simp [List.length_cons]; try omega, hs⟩] at h1
  exact Rs_call c394_1548 h1 rfl
theorem c394_1551 : qx_code 394 1551 = some (1551, .istore 6, 1553, 0, 0, 0) := by decide +kernel
theorem s394_1551i {L : Nat} {xs : Nat → Int32} {d x : Nat} {M : qxM} {st : List Value} {a0 a1 a2 a3 a4 a6 a7 a8 : Option Value} {z : Int32} {y : Int32} : Rs L xs (d) 394 1551 [a0, a1, a2, a3, a4, some (.int y), a6, a7, a8] (.int z :: st) M x = Rs L xs (d) 394 1553 [a0, a1, a2, a3, a4, some (.int y), some (.int z), a7, a8] st M x := Rs_next c394_1551 rfl
theorem c394_1553 : qx_code 394 1553 = some (1553, .aload_n 2, 1554, 0, 0, 0) := by decide +kernel
theorem s394_1553 {L : Nat} {xs : Nat → Int32} {d x : Nat} {M : qxM} {st : List Value} {a0 a1 a3 a4 a5 a6 a7 a8 : Option Value} {z : Nat} : Rs L xs (d) 394 1553 [a0, a1, some (.ref z), a3, a4, a5, a6, a7, a8] st M x = Rs L xs (d) 394 1554 [a0, a1, some (.ref z), a3, a4, a5, a6, a7, a8] (.ref z :: st) M x := Rs_next c394_1553 rfl
theorem c394_1554 : qx_code 394 1554 = some (1554, .invokevirtual 292, 1557, 280, 1, 1938) := by decide +kernel
theorem s394_1554 {L : Nat} {xs : Nat → Int32} {d x : Nat} {M : qxM} {st : List Value} {ls : qxL} {t : Nat} (hk : qx_kd t = 18) (hs : st.length ≤ 4) : Rs L xs (d + 1) 394 1554 ls (.ref t :: st) M x = (Rs L xs d 280 0 [some (.ref t)] [] M 0).bind (qx_kn L xs (d + 1) 394 1554 1557 280 ls st x) := by
  have h1 : qx_act L xs (qx_rt 394) (1554, .invokevirtual 292, 1557, 280, 1, 1938) ls (.ref t :: st) M = if 1 ≤ (.ref t :: st).length ∧ st.length ≤ 4 then some (.inr (.inr (.inr (280, [.ref t], st)))) else none := rfl
  rw [if_pos ⟨by simp [List.length_cons]; try omega, hs⟩] at h1
  have h2 := qx_kd_obj (k := 8) (by decide) hk
  exact Rs_call c394_1554 h1 (by rw [show qx_args 280 [.ref t] = decide (qx_sh t = some (.inl 8)) from rfl]; exact decide_eq_true h2)
theorem c394_1557 : qx_code 394 1557 = some (1557, .istore 7, 1559, 0, 0, 0) := by decide +kernel
theorem s394_1557i {L : Nat} {xs : Nat → Int32} {d x : Nat} {M : qxM} {st : List Value} {a0 a1 a2 a3 a4 a5 a7 a8 : Option Value} {z : Int32} {y : Int32} : Rs L xs (d) 394 1557 [a0, a1, a2, a3, a4, a5, some (.int y), a7, a8] (.int z :: st) M x = Rs L xs (d) 394 1559 [a0, a1, a2, a3, a4, a5, some (.int y), some (.int z), a8] st M x := Rs_next c394_1557 rfl
theorem c394_1559 : qx_code 394 1559 = some (1559, .aload_n 2, 1560, 0, 0, 0) := by decide +kernel
theorem s394_1559 {L : Nat} {xs : Nat → Int32} {d x : Nat} {M : qxM} {st : List Value} {a0 a1 a3 a4 a5 a6 a7 a8 : Option Value} {z : Nat} : Rs L xs (d) 394 1559 [a0, a1, some (.ref z), a3, a4, a5, a6, a7, a8] st M x = Rs L xs (d) 394 1560 [a0, a1, some (.ref z), a3, a4, a5, a6, a7, a8] (.ref z :: st) M x := Rs_next c394_1559 rfl
theorem c394_1560 : qx_code 394 1560 = some (1560, .invokevirtual 218, 1563, 177, 1, 1613) := by decide +kernel
theorem s394_1560 {L : Nat} {xs : Nat → Int32} {d x : Nat} {M : qxM} {st : List Value} {ls : qxL} {t : Nat} (hk : qx_kd t = 18) (hs : st.length ≤ 4) : Rs L xs (d + 1) 394 1560 ls (.ref t :: st) M x = (Rs L xs d 177 0 [some (.ref t)] [] M 0).bind (qx_kn L xs (d + 1) 394 1560 1563 177 ls st x) := by
  have h1 : qx_act L xs (qx_rt 394) (1560, .invokevirtual 218, 1563, 177, 1, 1613) ls (.ref t :: st) M = if 1 ≤ (.ref t :: st).length ∧ st.length ≤ 4 then some (.inr (.inr (.inr (177, [.ref t], st)))) else none := rfl
  rw [if_pos ⟨by simp [List.length_cons]; try omega, hs⟩] at h1
  have h2 := qx_kd_obj (k := 8) (by decide) hk
  exact Rs_call c394_1560 h1 (by rw [show qx_args 177 [.ref t] = decide (qx_sh t = some (.inl 8)) from rfl]; exact decide_eq_true h2)
theorem c394_1563 : qx_code 394 1563 = some (1563, .iload 6, 1565, 0, 0, 0) := by decide +kernel
theorem s394_1563 {L : Nat} {xs : Nat → Int32} {d x : Nat} {M : qxM} {st : List Value} {a0 a1 a2 a3 a4 a5 a7 a8 : Option Value} {z : Int32} : Rs L xs (d) 394 1563 [a0, a1, a2, a3, a4, a5, some (.int z), a7, a8] st M x = Rs L xs (d) 394 1565 [a0, a1, a2, a3, a4, a5, some (.int z), a7, a8] (.int z :: st) M x := Rs_next c394_1563 rfl
theorem c394_1565 : qx_code 394 1565 = some (1565, .if_icmp .eq 5, 1568, 1570, 0, 0) := by decide +kernel
theorem s394_1565 {L : Nat} {xs : Nat → Int32} {d x : Nat} {M : qxM} {st : List Value} {ls : qxL} {z y : Int32} : Rs L xs (d) 394 1565 ls (.int y :: .int z :: st) M x = if z = y then Rs L xs (d) 394 1570 ls st M x else Rs L xs (d) 394 1568 ls st M x := Rs_ite c394_1565 rfl
theorem c394_1570 : qx_code 394 1570 = some (1570, .iload 6, 1572, 0, 0, 0) := by decide +kernel
theorem s394_1570 {L : Nat} {xs : Nat → Int32} {d x : Nat} {M : qxM} {st : List Value} {a0 a1 a2 a3 a4 a5 a7 a8 : Option Value} {z : Int32} : Rs L xs (d) 394 1570 [a0, a1, a2, a3, a4, a5, some (.int z), a7, a8] st M x = Rs L xs (d) 394 1572 [a0, a1, a2, a3, a4, a5, some (.int z), a7, a8] (.int z :: st) M x := Rs_next c394_1570 rfl
theorem c394_1572 : qx_code 394 1572 = some (1572, .ifCond .ne 15, 1575, 1587, 0, 0) := by decide +kernel
theorem s394_1572 {L : Nat} {xs : Nat → Int32} {d x : Nat} {M : qxM} {st : List Value} {ls : qxL} {z : Int32} : Rs L xs (d) 394 1572 ls (.int z :: st) M x = if z = 0 then Rs L xs (d) 394 1575 ls st M x else Rs L xs (d) 394 1587 ls st M x := Rs_ite c394_1572 rfl
theorem c394_1575 : qx_code 394 1575 = some (1575, .aload_n 3, 1576, 0, 0, 0) := by decide +kernel
theorem s394_1575 {L : Nat} {xs : Nat → Int32} {d x : Nat} {M : qxM} {st : List Value} {a0 a1 a2 a4 a5 a6 a7 a8 : Option Value} {z : Nat} : Rs L xs (d) 394 1575 [a0, a1, a2, some (.ref z), a4, a5, a6, a7, a8] st M x = Rs L xs (d) 394 1576 [a0, a1, a2, some (.ref z), a4, a5, a6, a7, a8] (.ref z :: st) M x := Rs_next c394_1575 rfl
theorem c394_1576 : qx_code 394 1576 = some (1576, .iconst 0, 1577, 0, 0, 0) := by decide +kernel
theorem s394_1576 {L : Nat} {xs : Nat → Int32} {d x : Nat} {M : qxM} {st : List Value} {ls : qxL} : Rs L xs (d) 394 1576 ls st M x = Rs L xs (d) 394 1577 ls (.int (nI 0) :: st) M x := Rs_next c394_1576 rfl
theorem c394_1577 : qx_code 394 1577 = some (1577, .laload, 1578, 0, 0, 0) := by decide +kernel
theorem s394_1577 {L : Nat} {xs : Nat → Int32} {d x : Nat} {M : qxM} {st : List Value} {ls : qxL} {t : Nat} {j : Int32} (hk : qx_kd t = 4) (hj : qx_ib j (qx_ln t) = true) : Rs L xs (d) 394 1577 ls (.int j :: .ref t :: st) M x = Rs L xs (d) 394 1578 ls (.long (M.2.1 j.toNatClampNeg) :: st) M x := by
  have h1 := qx_kd_row (k := 4) (by decide) hk
  exact Rs_unless (qx_ib_not hj) c394_1577 (by unfold qx_act; dsimp only; rw [h1]; rfl)
theorem c394_1578 : qx_code 394 1578 = some (1578, .iload 7, 1580, 0, 0, 0) := by decide +kernel
theorem s394_1578 {L : Nat} {xs : Nat → Int32} {d x : Nat} {M : qxM} {st : List Value} {a0 a1 a2 a3 a4 a5 a6 a8 : Option Value} {z : Int32} : Rs L xs (d) 394 1578 [a0, a1, a2, a3, a4, a5, a6, some (.int z), a8] st M x = Rs L xs (d) 394 1580 [a0, a1, a2, a3, a4, a5, a6, some (.int z), a8] (.int z :: st) M x := Rs_next c394_1578 rfl
theorem c394_1580 : qx_code 394 1580 = some (1580, .i2l, 1581, 0, 0, 0) := by decide +kernel
theorem s394_1580 {L : Nat} {xs : Nat → Int32} {d x : Nat} {M : qxM} {st : List Value} {ls : qxL} {z : Int32} : Rs L xs (d) 394 1580 ls (.int z :: st) M x = Rs L xs (d) 394 1581 ls (.long z.toInt64 :: st) M x := Rs_next c394_1580 rfl
theorem c394_1581 : qx_code 394 1581 = some (1581, .lcmp, 1582, 0, 0, 0) := by decide +kernel
theorem s394_1581 {L : Nat} {xs : Nat → Int32} {d x : Nat} {M : qxM} {st : List Value} {ls : qxL} {z y : Int64} : Rs L xs (d) 394 1581 ls (.long y :: .long z :: st) M x = Rs L xs (d) 394 1582 ls (.int (lg_cmp z y) :: st) M x := Rs_next c394_1581 rfl
theorem c394_1582 : qx_code 394 1582 = some (1582, .ifCond .eq 5, 1585, 1587, 0, 0) := by decide +kernel
theorem s394_1582 {L : Nat} {xs : Nat → Int32} {d x : Nat} {M : qxM} {st : List Value} {ls : qxL} {z : Int32} : Rs L xs (d) 394 1582 ls (.int z :: st) M x = if z = 0 then Rs L xs (d) 394 1587 ls st M x else Rs L xs (d) 394 1585 ls st M x := Rs_ite c394_1582 rfl
theorem c394_1587 : qx_code 394 1587 = some (1587, .goto 2159, 1590, 3746, 0, 0) := by decide +kernel
theorem s394_1587 {L : Nat} {xs : Nat → Int32} {d x : Nat} {M : qxM} {st : List Value} {ls : qxL} : Rs L xs (d) 394 1587 ls st M x = Rs L xs (d) 394 3746 ls st M x := Rs_next c394_1587 rfl
theorem c394_1590 : qx_code 394 1590 = some (1590, .aload_n 1, 1591, 0, 0, 0) := by decide +kernel
theorem s394_1590 {L : Nat} {xs : Nat → Int32} {d x : Nat} {M : qxM} {st : List Value} {a0 a2 a3 a4 a5 a6 a7 a8 : Option Value} {z : Nat} : Rs L xs (d) 394 1590 [a0, some (.ref z), a2, a3, a4, a5, a6, a7, a8] st M x = Rs L xs (d) 394 1591 [a0, some (.ref z), a2, a3, a4, a5, a6, a7, a8] (.ref z :: st) M x := Rs_next c394_1590 rfl
theorem c394_1591 : qx_code 394 1591 = some (1591, .aload_n 3, 1592, 0, 0, 0) := by decide +kernel
theorem s394_1591 {L : Nat} {xs : Nat → Int32} {d x : Nat} {M : qxM} {st : List Value} {a0 a1 a2 a4 a5 a6 a7 a8 : Option Value} {z : Nat} : Rs L xs (d) 394 1591 [a0, a1, a2, some (.ref z), a4, a5, a6, a7, a8] st M x = Rs L xs (d) 394 1592 [a0, a1, a2, some (.ref z), a4, a5, a6, a7, a8] (.ref z :: st) M x := Rs_next c394_1591 rfl
theorem c394_1592 : qx_code 394 1592 = some (1592, .invokestatic 293, 1595, 355, 2, 1035) := by decide +kernel
theorem s394_1592 {L : Nat} {xs : Nat → Int32} {d x : Nat} {M : qxM} {st : List Value} {ls : qxL} {z0 : Nat} {z1 : Nat} (hs : st.length ≤ 4) : Rs L xs (d + 1) 394 1592 ls (.ref z1 :: .ref z0 :: st) M x = (Rs L xs d 355 0 [some (.ref z0), some (.ref z1), none] [] M 0).bind (qx_kn L xs (d + 1) 394 1592 1595 355 ls st x) := by
  have h1 : qx_act L xs (qx_rt 394) (1592, .invokestatic 293, 1595, 355, 2, 1035) ls (.ref z1 :: .ref z0 :: st) M = if 2 ≤ (.ref z1 :: .ref z0 :: st).length ∧ st.length ≤ 4 then some (.inr (.inr (.inr (355, [.ref z0, .ref z1], st)))) else none := rfl
  rw [if_pos ⟨by simp [List.length_cons]; try omega, hs⟩] at h1
  exact Rs_call c394_1592 h1 rfl
theorem c394_1595 : qx_code 394 1595 = some (1595, .istore 6, 1597, 0, 0, 0) := by decide +kernel
theorem s394_1595i {L : Nat} {xs : Nat → Int32} {d x : Nat} {M : qxM} {st : List Value} {a0 a1 a2 a3 a4 a6 a7 a8 : Option Value} {z : Int32} {y : Int32} : Rs L xs (d) 394 1595 [a0, a1, a2, a3, a4, some (.int y), a6, a7, a8] (.int z :: st) M x = Rs L xs (d) 394 1597 [a0, a1, a2, a3, a4, some (.int y), some (.int z), a7, a8] st M x := Rs_next c394_1595 rfl
theorem c394_1597 : qx_code 394 1597 = some (1597, .aload_n 2, 1598, 0, 0, 0) := by decide +kernel
theorem s394_1597 {L : Nat} {xs : Nat → Int32} {d x : Nat} {M : qxM} {st : List Value} {a0 a1 a3 a4 a5 a6 a7 a8 : Option Value} {z : Nat} : Rs L xs (d) 394 1597 [a0, a1, some (.ref z), a3, a4, a5, a6, a7, a8] st M x = Rs L xs (d) 394 1598 [a0, a1, some (.ref z), a3, a4, a5, a6, a7, a8] (.ref z :: st) M x := Rs_next c394_1597 rfl
theorem c394_1598 : qx_code 394 1598 = some (1598, .invokevirtual 295, 1601, 281, 1, 1942) := by decide +kernel
theorem s394_1598 {L : Nat} {xs : Nat → Int32} {d x : Nat} {M : qxM} {st : List Value} {ls : qxL} {t : Nat} (hk : qx_kd t = 18) (hs : st.length ≤ 4) : Rs L xs (d + 1) 394 1598 ls (.ref t :: st) M x = (Rs L xs d 281 0 [some (.ref t)] [] M 0).bind (qx_kn L xs (d + 1) 394 1598 1601 281 ls st x) := by
  have h1 : qx_act L xs (qx_rt 394) (1598, .invokevirtual 295, 1601, 281, 1, 1942) ls (.ref t :: st) M = if 1 ≤ (.ref t :: st).length ∧ st.length ≤ 4 then some (.inr (.inr (.inr (281, [.ref t], st)))) else none := rfl
  rw [if_pos ⟨by simp [List.length_cons]; try omega, hs⟩] at h1
  have h2 := qx_kd_obj (k := 8) (by decide) hk
  exact Rs_call c394_1598 h1 (by rw [show qx_args 281 [.ref t] = decide (qx_sh t = some (.inl 8)) from rfl]; exact decide_eq_true h2)
theorem c394_1601 : qx_code 394 1601 = some (1601, .istore 7, 1603, 0, 0, 0) := by decide +kernel
theorem s394_1601i {L : Nat} {xs : Nat → Int32} {d x : Nat} {M : qxM} {st : List Value} {a0 a1 a2 a3 a4 a5 a7 a8 : Option Value} {z : Int32} {y : Int32} : Rs L xs (d) 394 1601 [a0, a1, a2, a3, a4, a5, some (.int y), a7, a8] (.int z :: st) M x = Rs L xs (d) 394 1603 [a0, a1, a2, a3, a4, a5, some (.int y), some (.int z), a8] st M x := Rs_next c394_1601 rfl
theorem c394_1603 : qx_code 394 1603 = some (1603, .aload_n 2, 1604, 0, 0, 0) := by decide +kernel
theorem s394_1603 {L : Nat} {xs : Nat → Int32} {d x : Nat} {M : qxM} {st : List Value} {a0 a1 a3 a4 a5 a6 a7 a8 : Option Value} {z : Nat} : Rs L xs (d) 394 1603 [a0, a1, some (.ref z), a3, a4, a5, a6, a7, a8] st M x = Rs L xs (d) 394 1604 [a0, a1, some (.ref z), a3, a4, a5, a6, a7, a8] (.ref z :: st) M x := Rs_next c394_1603 rfl
theorem c394_1604 : qx_code 394 1604 = some (1604, .invokevirtual 218, 1607, 177, 1, 1613) := by decide +kernel
theorem s394_1604 {L : Nat} {xs : Nat → Int32} {d x : Nat} {M : qxM} {st : List Value} {ls : qxL} {t : Nat} (hk : qx_kd t = 18) (hs : st.length ≤ 4) : Rs L xs (d + 1) 394 1604 ls (.ref t :: st) M x = (Rs L xs d 177 0 [some (.ref t)] [] M 0).bind (qx_kn L xs (d + 1) 394 1604 1607 177 ls st x) := by
  have h1 : qx_act L xs (qx_rt 394) (1604, .invokevirtual 218, 1607, 177, 1, 1613) ls (.ref t :: st) M = if 1 ≤ (.ref t :: st).length ∧ st.length ≤ 4 then some (.inr (.inr (.inr (177, [.ref t], st)))) else none := rfl
  rw [if_pos ⟨by simp [List.length_cons]; try omega, hs⟩] at h1
  have h2 := qx_kd_obj (k := 8) (by decide) hk
  exact Rs_call c394_1604 h1 (by rw [show qx_args 177 [.ref t] = decide (qx_sh t = some (.inl 8)) from rfl]; exact decide_eq_true h2)
theorem c394_1607 : qx_code 394 1607 = some (1607, .iload 6, 1609, 0, 0, 0) := by decide +kernel
theorem s394_1607 {L : Nat} {xs : Nat → Int32} {d x : Nat} {M : qxM} {st : List Value} {a0 a1 a2 a3 a4 a5 a7 a8 : Option Value} {z : Int32} : Rs L xs (d) 394 1607 [a0, a1, a2, a3, a4, a5, some (.int z), a7, a8] st M x = Rs L xs (d) 394 1609 [a0, a1, a2, a3, a4, a5, some (.int z), a7, a8] (.int z :: st) M x := Rs_next c394_1607 rfl
theorem c394_1609 : qx_code 394 1609 = some (1609, .if_icmp .eq 5, 1612, 1614, 0, 0) := by decide +kernel
theorem s394_1609 {L : Nat} {xs : Nat → Int32} {d x : Nat} {M : qxM} {st : List Value} {ls : qxL} {z y : Int32} : Rs L xs (d) 394 1609 ls (.int y :: .int z :: st) M x = if z = y then Rs L xs (d) 394 1614 ls st M x else Rs L xs (d) 394 1612 ls st M x := Rs_ite c394_1609 rfl
theorem c394_1614 : qx_code 394 1614 = some (1614, .iload 6, 1616, 0, 0, 0) := by decide +kernel
theorem s394_1614 {L : Nat} {xs : Nat → Int32} {d x : Nat} {M : qxM} {st : List Value} {a0 a1 a2 a3 a4 a5 a7 a8 : Option Value} {z : Int32} : Rs L xs (d) 394 1614 [a0, a1, a2, a3, a4, a5, some (.int z), a7, a8] st M x = Rs L xs (d) 394 1616 [a0, a1, a2, a3, a4, a5, some (.int z), a7, a8] (.int z :: st) M x := Rs_next c394_1614 rfl
theorem c394_1616 : qx_code 394 1616 = some (1616, .ifCond .ne 15, 1619, 1631, 0, 0) := by decide +kernel
theorem s394_1616 {L : Nat} {xs : Nat → Int32} {d x : Nat} {M : qxM} {st : List Value} {ls : qxL} {z : Int32} : Rs L xs (d) 394 1616 ls (.int z :: st) M x = if z = 0 then Rs L xs (d) 394 1619 ls st M x else Rs L xs (d) 394 1631 ls st M x := Rs_ite c394_1616 rfl
theorem c394_1619 : qx_code 394 1619 = some (1619, .aload_n 3, 1620, 0, 0, 0) := by decide +kernel
theorem s394_1619 {L : Nat} {xs : Nat → Int32} {d x : Nat} {M : qxM} {st : List Value} {a0 a1 a2 a4 a5 a6 a7 a8 : Option Value} {z : Nat} : Rs L xs (d) 394 1619 [a0, a1, a2, some (.ref z), a4, a5, a6, a7, a8] st M x = Rs L xs (d) 394 1620 [a0, a1, a2, some (.ref z), a4, a5, a6, a7, a8] (.ref z :: st) M x := Rs_next c394_1619 rfl
theorem c394_1620 : qx_code 394 1620 = some (1620, .iconst 0, 1621, 0, 0, 0) := by decide +kernel
theorem s394_1620 {L : Nat} {xs : Nat → Int32} {d x : Nat} {M : qxM} {st : List Value} {ls : qxL} : Rs L xs (d) 394 1620 ls st M x = Rs L xs (d) 394 1621 ls (.int (nI 0) :: st) M x := Rs_next c394_1620 rfl
theorem c394_1621 : qx_code 394 1621 = some (1621, .laload, 1622, 0, 0, 0) := by decide +kernel
theorem s394_1621 {L : Nat} {xs : Nat → Int32} {d x : Nat} {M : qxM} {st : List Value} {ls : qxL} {t : Nat} {j : Int32} (hk : qx_kd t = 4) (hj : qx_ib j (qx_ln t) = true) : Rs L xs (d) 394 1621 ls (.int j :: .ref t :: st) M x = Rs L xs (d) 394 1622 ls (.long (M.2.1 j.toNatClampNeg) :: st) M x := by
  have h1 := qx_kd_row (k := 4) (by decide) hk
  exact Rs_unless (qx_ib_not hj) c394_1621 (by unfold qx_act; dsimp only; rw [h1]; rfl)
theorem c394_1622 : qx_code 394 1622 = some (1622, .iload 7, 1624, 0, 0, 0) := by decide +kernel
theorem s394_1622 {L : Nat} {xs : Nat → Int32} {d x : Nat} {M : qxM} {st : List Value} {a0 a1 a2 a3 a4 a5 a6 a8 : Option Value} {z : Int32} : Rs L xs (d) 394 1622 [a0, a1, a2, a3, a4, a5, a6, some (.int z), a8] st M x = Rs L xs (d) 394 1624 [a0, a1, a2, a3, a4, a5, a6, some (.int z), a8] (.int z :: st) M x := Rs_next c394_1622 rfl
theorem c394_1624 : qx_code 394 1624 = some (1624, .i2l, 1625, 0, 0, 0) := by decide +kernel
theorem s394_1624 {L : Nat} {xs : Nat → Int32} {d x : Nat} {M : qxM} {st : List Value} {ls : qxL} {z : Int32} : Rs L xs (d) 394 1624 ls (.int z :: st) M x = Rs L xs (d) 394 1625 ls (.long z.toInt64 :: st) M x := Rs_next c394_1624 rfl
theorem c394_1625 : qx_code 394 1625 = some (1625, .lcmp, 1626, 0, 0, 0) := by decide +kernel
theorem s394_1625 {L : Nat} {xs : Nat → Int32} {d x : Nat} {M : qxM} {st : List Value} {ls : qxL} {z y : Int64} : Rs L xs (d) 394 1625 ls (.long y :: .long z :: st) M x = Rs L xs (d) 394 1626 ls (.int (lg_cmp z y) :: st) M x := Rs_next c394_1625 rfl
theorem c394_1626 : qx_code 394 1626 = some (1626, .ifCond .eq 5, 1629, 1631, 0, 0) := by decide +kernel
theorem s394_1626 {L : Nat} {xs : Nat → Int32} {d x : Nat} {M : qxM} {st : List Value} {ls : qxL} {z : Int32} : Rs L xs (d) 394 1626 ls (.int z :: st) M x = if z = 0 then Rs L xs (d) 394 1631 ls st M x else Rs L xs (d) 394 1629 ls st M x := Rs_ite c394_1626 rfl
theorem c394_1631 : qx_code 394 1631 = some (1631, .goto 2115, 1634, 3746, 0, 0) := by decide +kernel
theorem s394_1631 {L : Nat} {xs : Nat → Int32} {d x : Nat} {M : qxM} {st : List Value} {ls : qxL} : Rs L xs (d) 394 1631 ls st M x = Rs L xs (d) 394 3746 ls st M x := Rs_next c394_1631 rfl
theorem c394_1634 : qx_code 394 1634 = some (1634, .aload_n 1, 1635, 0, 0, 0) := by decide +kernel
theorem s394_1634 {L : Nat} {xs : Nat → Int32} {d x : Nat} {M : qxM} {st : List Value} {a0 a2 a3 a4 a5 a6 a7 a8 : Option Value} {z : Nat} : Rs L xs (d) 394 1634 [a0, some (.ref z), a2, a3, a4, a5, a6, a7, a8] st M x = Rs L xs (d) 394 1635 [a0, some (.ref z), a2, a3, a4, a5, a6, a7, a8] (.ref z :: st) M x := Rs_next c394_1634 rfl
theorem c394_1635 : qx_code 394 1635 = some (1635, .aload_n 3, 1636, 0, 0, 0) := by decide +kernel
theorem s394_1635 {L : Nat} {xs : Nat → Int32} {d x : Nat} {M : qxM} {st : List Value} {a0 a1 a2 a4 a5 a6 a7 a8 : Option Value} {z : Nat} : Rs L xs (d) 394 1635 [a0, a1, a2, some (.ref z), a4, a5, a6, a7, a8] st M x = Rs L xs (d) 394 1636 [a0, a1, a2, some (.ref z), a4, a5, a6, a7, a8] (.ref z :: st) M x := Rs_next c394_1635 rfl
theorem c394_1636 : qx_code 394 1636 = some (1636, .invokestatic 296, 1639, 356, 2, 1054) := by decide +kernel
theorem s394_1636 {L : Nat} {xs : Nat → Int32} {d x : Nat} {M : qxM} {st : List Value} {ls : qxL} {z0 : Nat} {z1 : Nat} (hs : st.length ≤ 4) : Rs L xs (d + 1) 394 1636 ls (.ref z1 :: .ref z0 :: st) M x = (Rs L xs d 356 0 [some (.ref z0), some (.ref z1), none] [] M 0).bind (qx_kn L xs (d + 1) 394 1636 1639 356 ls st x) := by
  have h1 : qx_act L xs (qx_rt 394) (1636, .invokestatic 296, 1639, 356, 2, 1054) ls (.ref z1 :: .ref z0 :: st) M = if 2 ≤ (.ref z1 :: .ref z0 :: st).length ∧ st.length ≤ 4 then some (.inr (.inr (.inr (356, [.ref z0, .ref z1], st)))) else none := rfl
  rw [if_pos ⟨by simp [List.length_cons]; try omega, hs⟩] at h1
  exact Rs_call c394_1636 h1 rfl
theorem c394_1639 : qx_code 394 1639 = some (1639, .istore 6, 1641, 0, 0, 0) := by decide +kernel
theorem s394_1639i {L : Nat} {xs : Nat → Int32} {d x : Nat} {M : qxM} {st : List Value} {a0 a1 a2 a3 a4 a6 a7 a8 : Option Value} {z : Int32} {y : Int32} : Rs L xs (d) 394 1639 [a0, a1, a2, a3, a4, some (.int y), a6, a7, a8] (.int z :: st) M x = Rs L xs (d) 394 1641 [a0, a1, a2, a3, a4, some (.int y), some (.int z), a7, a8] st M x := Rs_next c394_1639 rfl
theorem c394_1641 : qx_code 394 1641 = some (1641, .aload_n 2, 1642, 0, 0, 0) := by decide +kernel
theorem s394_1641 {L : Nat} {xs : Nat → Int32} {d x : Nat} {M : qxM} {st : List Value} {a0 a1 a3 a4 a5 a6 a7 a8 : Option Value} {z : Nat} : Rs L xs (d) 394 1641 [a0, a1, some (.ref z), a3, a4, a5, a6, a7, a8] st M x = Rs L xs (d) 394 1642 [a0, a1, some (.ref z), a3, a4, a5, a6, a7, a8] (.ref z :: st) M x := Rs_next c394_1641 rfl
theorem c394_1642 : qx_code 394 1642 = some (1642, .invokevirtual 298, 1645, 282, 1, 1954) := by decide +kernel
theorem s394_1642 {L : Nat} {xs : Nat → Int32} {d x : Nat} {M : qxM} {st : List Value} {ls : qxL} {t : Nat} (hk : qx_kd t = 18) (hs : st.length ≤ 4) : Rs L xs (d + 1) 394 1642 ls (.ref t :: st) M x = (Rs L xs d 282 0 [some (.ref t)] [] M 0).bind (qx_kn L xs (d + 1) 394 1642 1645 282 ls st x) := by
  have h1 : qx_act L xs (qx_rt 394) (1642, .invokevirtual 298, 1645, 282, 1, 1954) ls (.ref t :: st) M = if 1 ≤ (.ref t :: st).length ∧ st.length ≤ 4 then some (.inr (.inr (.inr (282, [.ref t], st)))) else none := rfl
  rw [if_pos ⟨by simp [List.length_cons]; try omega, hs⟩] at h1
  have h2 := qx_kd_obj (k := 8) (by decide) hk
  exact Rs_call c394_1642 h1 (by rw [show qx_args 282 [.ref t] = decide (qx_sh t = some (.inl 8)) from rfl]; exact decide_eq_true h2)
theorem c394_1645 : qx_code 394 1645 = some (1645, .istore 7, 1647, 0, 0, 0) := by decide +kernel
theorem s394_1645i {L : Nat} {xs : Nat → Int32} {d x : Nat} {M : qxM} {st : List Value} {a0 a1 a2 a3 a4 a5 a7 a8 : Option Value} {z : Int32} {y : Int32} : Rs L xs (d) 394 1645 [a0, a1, a2, a3, a4, a5, some (.int y), a7, a8] (.int z :: st) M x = Rs L xs (d) 394 1647 [a0, a1, a2, a3, a4, a5, some (.int y), some (.int z), a8] st M x := Rs_next c394_1645 rfl
theorem c394_1647 : qx_code 394 1647 = some (1647, .aload_n 2, 1648, 0, 0, 0) := by decide +kernel
theorem s394_1647 {L : Nat} {xs : Nat → Int32} {d x : Nat} {M : qxM} {st : List Value} {a0 a1 a3 a4 a5 a6 a7 a8 : Option Value} {z : Nat} : Rs L xs (d) 394 1647 [a0, a1, some (.ref z), a3, a4, a5, a6, a7, a8] st M x = Rs L xs (d) 394 1648 [a0, a1, some (.ref z), a3, a4, a5, a6, a7, a8] (.ref z :: st) M x := Rs_next c394_1647 rfl
theorem c394_1648 : qx_code 394 1648 = some (1648, .invokevirtual 218, 1651, 177, 1, 1613) := by decide +kernel
theorem s394_1648 {L : Nat} {xs : Nat → Int32} {d x : Nat} {M : qxM} {st : List Value} {ls : qxL} {t : Nat} (hk : qx_kd t = 18) (hs : st.length ≤ 4) : Rs L xs (d + 1) 394 1648 ls (.ref t :: st) M x = (Rs L xs d 177 0 [some (.ref t)] [] M 0).bind (qx_kn L xs (d + 1) 394 1648 1651 177 ls st x) := by
  have h1 : qx_act L xs (qx_rt 394) (1648, .invokevirtual 218, 1651, 177, 1, 1613) ls (.ref t :: st) M = if 1 ≤ (.ref t :: st).length ∧ st.length ≤ 4 then some (.inr (.inr (.inr (177, [.ref t], st)))) else none := rfl
  rw [if_pos ⟨by simp [List.length_cons]; try omega, hs⟩] at h1
  have h2 := qx_kd_obj (k := 8) (by decide) hk
  exact Rs_call c394_1648 h1 (by rw [show qx_args 177 [.ref t] = decide (qx_sh t = some (.inl 8)) from rfl]; exact decide_eq_true h2)
theorem c394_1651 : qx_code 394 1651 = some (1651, .iload 6, 1653, 0, 0, 0) := by decide +kernel
theorem s394_1651 {L : Nat} {xs : Nat → Int32} {d x : Nat} {M : qxM} {st : List Value} {a0 a1 a2 a3 a4 a5 a7 a8 : Option Value} {z : Int32} : Rs L xs (d) 394 1651 [a0, a1, a2, a3, a4, a5, some (.int z), a7, a8] st M x = Rs L xs (d) 394 1653 [a0, a1, a2, a3, a4, a5, some (.int z), a7, a8] (.int z :: st) M x := Rs_next c394_1651 rfl
theorem c394_1653 : qx_code 394 1653 = some (1653, .if_icmp .eq 5, 1656, 1658, 0, 0) := by decide +kernel
theorem s394_1653 {L : Nat} {xs : Nat → Int32} {d x : Nat} {M : qxM} {st : List Value} {ls : qxL} {z y : Int32} : Rs L xs (d) 394 1653 ls (.int y :: .int z :: st) M x = if z = y then Rs L xs (d) 394 1658 ls st M x else Rs L xs (d) 394 1656 ls st M x := Rs_ite c394_1653 rfl
theorem c394_1658 : qx_code 394 1658 = some (1658, .iload 6, 1660, 0, 0, 0) := by decide +kernel
theorem s394_1658 {L : Nat} {xs : Nat → Int32} {d x : Nat} {M : qxM} {st : List Value} {a0 a1 a2 a3 a4 a5 a7 a8 : Option Value} {z : Int32} : Rs L xs (d) 394 1658 [a0, a1, a2, a3, a4, a5, some (.int z), a7, a8] st M x = Rs L xs (d) 394 1660 [a0, a1, a2, a3, a4, a5, some (.int z), a7, a8] (.int z :: st) M x := Rs_next c394_1658 rfl
theorem c394_1660 : qx_code 394 1660 = some (1660, .ifCond .ne 15, 1663, 1675, 0, 0) := by decide +kernel
theorem s394_1660 {L : Nat} {xs : Nat → Int32} {d x : Nat} {M : qxM} {st : List Value} {ls : qxL} {z : Int32} : Rs L xs (d) 394 1660 ls (.int z :: st) M x = if z = 0 then Rs L xs (d) 394 1663 ls st M x else Rs L xs (d) 394 1675 ls st M x := Rs_ite c394_1660 rfl
theorem c394_1663 : qx_code 394 1663 = some (1663, .aload_n 3, 1664, 0, 0, 0) := by decide +kernel
theorem s394_1663 {L : Nat} {xs : Nat → Int32} {d x : Nat} {M : qxM} {st : List Value} {a0 a1 a2 a4 a5 a6 a7 a8 : Option Value} {z : Nat} : Rs L xs (d) 394 1663 [a0, a1, a2, some (.ref z), a4, a5, a6, a7, a8] st M x = Rs L xs (d) 394 1664 [a0, a1, a2, some (.ref z), a4, a5, a6, a7, a8] (.ref z :: st) M x := Rs_next c394_1663 rfl
theorem c394_1664 : qx_code 394 1664 = some (1664, .iconst 0, 1665, 0, 0, 0) := by decide +kernel
theorem s394_1664 {L : Nat} {xs : Nat → Int32} {d x : Nat} {M : qxM} {st : List Value} {ls : qxL} : Rs L xs (d) 394 1664 ls st M x = Rs L xs (d) 394 1665 ls (.int (nI 0) :: st) M x := Rs_next c394_1664 rfl
theorem c394_1665 : qx_code 394 1665 = some (1665, .laload, 1666, 0, 0, 0) := by decide +kernel
theorem s394_1665 {L : Nat} {xs : Nat → Int32} {d x : Nat} {M : qxM} {st : List Value} {ls : qxL} {t : Nat} {j : Int32} (hk : qx_kd t = 4) (hj : qx_ib j (qx_ln t) = true) : Rs L xs (d) 394 1665 ls (.int j :: .ref t :: st) M x = Rs L xs (d) 394 1666 ls (.long (M.2.1 j.toNatClampNeg) :: st) M x := by
  have h1 := qx_kd_row (k := 4) (by decide) hk
  exact Rs_unless (qx_ib_not hj) c394_1665 (by unfold qx_act; dsimp only; rw [h1]; rfl)
theorem c394_1666 : qx_code 394 1666 = some (1666, .iload 7, 1668, 0, 0, 0) := by decide +kernel
theorem s394_1666 {L : Nat} {xs : Nat → Int32} {d x : Nat} {M : qxM} {st : List Value} {a0 a1 a2 a3 a4 a5 a6 a8 : Option Value} {z : Int32} : Rs L xs (d) 394 1666 [a0, a1, a2, a3, a4, a5, a6, some (.int z), a8] st M x = Rs L xs (d) 394 1668 [a0, a1, a2, a3, a4, a5, a6, some (.int z), a8] (.int z :: st) M x := Rs_next c394_1666 rfl
theorem c394_1668 : qx_code 394 1668 = some (1668, .i2l, 1669, 0, 0, 0) := by decide +kernel
theorem s394_1668 {L : Nat} {xs : Nat → Int32} {d x : Nat} {M : qxM} {st : List Value} {ls : qxL} {z : Int32} : Rs L xs (d) 394 1668 ls (.int z :: st) M x = Rs L xs (d) 394 1669 ls (.long z.toInt64 :: st) M x := Rs_next c394_1668 rfl
theorem c394_1669 : qx_code 394 1669 = some (1669, .lcmp, 1670, 0, 0, 0) := by decide +kernel
theorem s394_1669 {L : Nat} {xs : Nat → Int32} {d x : Nat} {M : qxM} {st : List Value} {ls : qxL} {z y : Int64} : Rs L xs (d) 394 1669 ls (.long y :: .long z :: st) M x = Rs L xs (d) 394 1670 ls (.int (lg_cmp z y) :: st) M x := Rs_next c394_1669 rfl
theorem c394_1670 : qx_code 394 1670 = some (1670, .ifCond .eq 5, 1673, 1675, 0, 0) := by decide +kernel
theorem s394_1670 {L : Nat} {xs : Nat → Int32} {d x : Nat} {M : qxM} {st : List Value} {ls : qxL} {z : Int32} : Rs L xs (d) 394 1670 ls (.int z :: st) M x = if z = 0 then Rs L xs (d) 394 1675 ls st M x else Rs L xs (d) 394 1673 ls st M x := Rs_ite c394_1670 rfl
theorem c394_1675 : qx_code 394 1675 = some (1675, .goto 2071, 1678, 3746, 0, 0) := by decide +kernel
theorem s394_1675 {L : Nat} {xs : Nat → Int32} {d x : Nat} {M : qxM} {st : List Value} {ls : qxL} : Rs L xs (d) 394 1675 ls st M x = Rs L xs (d) 394 3746 ls st M x := Rs_next c394_1675 rfl
theorem c394_1678 : qx_code 394 1678 = some (1678, .aload_n 1, 1679, 0, 0, 0) := by decide +kernel
theorem s394_1678 {L : Nat} {xs : Nat → Int32} {d x : Nat} {M : qxM} {st : List Value} {a0 a2 a3 a4 a5 a6 a7 a8 : Option Value} {z : Nat} : Rs L xs (d) 394 1678 [a0, some (.ref z), a2, a3, a4, a5, a6, a7, a8] st M x = Rs L xs (d) 394 1679 [a0, some (.ref z), a2, a3, a4, a5, a6, a7, a8] (.ref z :: st) M x := Rs_next c394_1678 rfl
theorem c394_1679 : qx_code 394 1679 = some (1679, .aload_n 3, 1680, 0, 0, 0) := by decide +kernel
theorem s394_1679 {L : Nat} {xs : Nat → Int32} {d x : Nat} {M : qxM} {st : List Value} {a0 a1 a2 a4 a5 a6 a7 a8 : Option Value} {z : Nat} : Rs L xs (d) 394 1679 [a0, a1, a2, some (.ref z), a4, a5, a6, a7, a8] st M x = Rs L xs (d) 394 1680 [a0, a1, a2, some (.ref z), a4, a5, a6, a7, a8] (.ref z :: st) M x := Rs_next c394_1679 rfl
theorem c394_1680 : qx_code 394 1680 = some (1680, .invokestatic 299, 1683, 357, 2, 1065) := by decide +kernel
theorem s394_1680 {L : Nat} {xs : Nat → Int32} {d x : Nat} {M : qxM} {st : List Value} {ls : qxL} {z0 : Nat} {z1 : Nat} (hs : st.length ≤ 4) : Rs L xs (d + 1) 394 1680 ls (.ref z1 :: .ref z0 :: st) M x = (Rs L xs d 357 0 [some (.ref z0), some (.ref z1), none] [] M 0).bind (qx_kn L xs (d + 1) 394 1680 1683 357 ls st x) := by
  have h1 : qx_act L xs (qx_rt 394) (1680, .invokestatic 299, 1683, 357, 2, 1065) ls (.ref z1 :: .ref z0 :: st) M = if 2 ≤ (.ref z1 :: .ref z0 :: st).length ∧ st.length ≤ 4 then some (.inr (.inr (.inr (357, [.ref z0, .ref z1], st)))) else none := rfl
  rw [if_pos ⟨by simp [List.length_cons]; try omega, hs⟩] at h1
  exact Rs_call c394_1680 h1 rfl
theorem c394_1683 : qx_code 394 1683 = some (1683, .istore 6, 1685, 0, 0, 0) := by decide +kernel
theorem s394_1683i {L : Nat} {xs : Nat → Int32} {d x : Nat} {M : qxM} {st : List Value} {a0 a1 a2 a3 a4 a6 a7 a8 : Option Value} {z : Int32} {y : Int32} : Rs L xs (d) 394 1683 [a0, a1, a2, a3, a4, some (.int y), a6, a7, a8] (.int z :: st) M x = Rs L xs (d) 394 1685 [a0, a1, a2, a3, a4, some (.int y), some (.int z), a7, a8] st M x := Rs_next c394_1683 rfl
theorem c394_1685 : qx_code 394 1685 = some (1685, .aload_n 2, 1686, 0, 0, 0) := by decide +kernel
theorem s394_1685 {L : Nat} {xs : Nat → Int32} {d x : Nat} {M : qxM} {st : List Value} {a0 a1 a3 a4 a5 a6 a7 a8 : Option Value} {z : Nat} : Rs L xs (d) 394 1685 [a0, a1, some (.ref z), a3, a4, a5, a6, a7, a8] st M x = Rs L xs (d) 394 1686 [a0, a1, some (.ref z), a3, a4, a5, a6, a7, a8] (.ref z :: st) M x := Rs_next c394_1685 rfl
theorem c394_1686 : qx_code 394 1686 = some (1686, .invokevirtual 301, 1689, 283, 1, 1962) := by decide +kernel
theorem s394_1686 {L : Nat} {xs : Nat → Int32} {d x : Nat} {M : qxM} {st : List Value} {ls : qxL} {t : Nat} (hk : qx_kd t = 18) (hs : st.length ≤ 4) : Rs L xs (d + 1) 394 1686 ls (.ref t :: st) M x = (Rs L xs d 283 0 [some (.ref t), none] [] M 0).bind (qx_kn L xs (d + 1) 394 1686 1689 283 ls st x) := by
  have h1 : qx_act L xs (qx_rt 394) (1686, .invokevirtual 301, 1689, 283, 1, 1962) ls (.ref t :: st) M = if 1 ≤ (.ref t :: st).length ∧ st.length ≤ 4 then some (.inr (.inr (.inr (283, [.ref t], st)))) else none := rfl
  rw [if_pos ⟨by simp [List.length_cons]; try omega, hs⟩] at h1
  have h2 := qx_kd_obj (k := 8) (by decide) hk
  exact Rs_call c394_1686 h1 (by rw [show qx_args 283 [.ref t] = decide (qx_sh t = some (.inl 8)) from rfl]; exact decide_eq_true h2)
theorem c394_1689 : qx_code 394 1689 = some (1689, .istore 7, 1691, 0, 0, 0) := by decide +kernel
theorem s394_1689i {L : Nat} {xs : Nat → Int32} {d x : Nat} {M : qxM} {st : List Value} {a0 a1 a2 a3 a4 a5 a7 a8 : Option Value} {z : Int32} {y : Int32} : Rs L xs (d) 394 1689 [a0, a1, a2, a3, a4, a5, some (.int y), a7, a8] (.int z :: st) M x = Rs L xs (d) 394 1691 [a0, a1, a2, a3, a4, a5, some (.int y), some (.int z), a8] st M x := Rs_next c394_1689 rfl
theorem c394_1691 : qx_code 394 1691 = some (1691, .aload_n 2, 1692, 0, 0, 0) := by decide +kernel
theorem s394_1691 {L : Nat} {xs : Nat → Int32} {d x : Nat} {M : qxM} {st : List Value} {a0 a1 a3 a4 a5 a6 a7 a8 : Option Value} {z : Nat} : Rs L xs (d) 394 1691 [a0, a1, some (.ref z), a3, a4, a5, a6, a7, a8] st M x = Rs L xs (d) 394 1692 [a0, a1, some (.ref z), a3, a4, a5, a6, a7, a8] (.ref z :: st) M x := Rs_next c394_1691 rfl
theorem c394_1692 : qx_code 394 1692 = some (1692, .invokevirtual 218, 1695, 177, 1, 1613) := by decide +kernel
theorem s394_1692 {L : Nat} {xs : Nat → Int32} {d x : Nat} {M : qxM} {st : List Value} {ls : qxL} {t : Nat} (hk : qx_kd t = 18) (hs : st.length ≤ 4) : Rs L xs (d + 1) 394 1692 ls (.ref t :: st) M x = (Rs L xs d 177 0 [some (.ref t)] [] M 0).bind (qx_kn L xs (d + 1) 394 1692 1695 177 ls st x) := by
  have h1 : qx_act L xs (qx_rt 394) (1692, .invokevirtual 218, 1695, 177, 1, 1613) ls (.ref t :: st) M = if 1 ≤ (.ref t :: st).length ∧ st.length ≤ 4 then some (.inr (.inr (.inr (177, [.ref t], st)))) else none := rfl
  rw [if_pos ⟨by simp [List.length_cons]; try omega, hs⟩] at h1
  have h2 := qx_kd_obj (k := 8) (by decide) hk
  exact Rs_call c394_1692 h1 (by rw [show qx_args 177 [.ref t] = decide (qx_sh t = some (.inl 8)) from rfl]; exact decide_eq_true h2)
theorem c394_1695 : qx_code 394 1695 = some (1695, .iload 6, 1697, 0, 0, 0) := by decide +kernel
theorem s394_1695 {L : Nat} {xs : Nat → Int32} {d x : Nat} {M : qxM} {st : List Value} {a0 a1 a2 a3 a4 a5 a7 a8 : Option Value} {z : Int32} : Rs L xs (d) 394 1695 [a0, a1, a2, a3, a4, a5, some (.int z), a7, a8] st M x = Rs L xs (d) 394 1697 [a0, a1, a2, a3, a4, a5, some (.int z), a7, a8] (.int z :: st) M x := Rs_next c394_1695 rfl
theorem c394_1697 : qx_code 394 1697 = some (1697, .if_icmp .eq 5, 1700, 1702, 0, 0) := by decide +kernel
theorem s394_1697 {L : Nat} {xs : Nat → Int32} {d x : Nat} {M : qxM} {st : List Value} {ls : qxL} {z y : Int32} : Rs L xs (d) 394 1697 ls (.int y :: .int z :: st) M x = if z = y then Rs L xs (d) 394 1702 ls st M x else Rs L xs (d) 394 1700 ls st M x := Rs_ite c394_1697 rfl
theorem c394_1702 : qx_code 394 1702 = some (1702, .iload 6, 1704, 0, 0, 0) := by decide +kernel
theorem s394_1702 {L : Nat} {xs : Nat → Int32} {d x : Nat} {M : qxM} {st : List Value} {a0 a1 a2 a3 a4 a5 a7 a8 : Option Value} {z : Int32} : Rs L xs (d) 394 1702 [a0, a1, a2, a3, a4, a5, some (.int z), a7, a8] st M x = Rs L xs (d) 394 1704 [a0, a1, a2, a3, a4, a5, some (.int z), a7, a8] (.int z :: st) M x := Rs_next c394_1702 rfl
theorem c394_1704 : qx_code 394 1704 = some (1704, .ifCond .ne 15, 1707, 1719, 0, 0) := by decide +kernel
theorem s394_1704 {L : Nat} {xs : Nat → Int32} {d x : Nat} {M : qxM} {st : List Value} {ls : qxL} {z : Int32} : Rs L xs (d) 394 1704 ls (.int z :: st) M x = if z = 0 then Rs L xs (d) 394 1707 ls st M x else Rs L xs (d) 394 1719 ls st M x := Rs_ite c394_1704 rfl
theorem c394_1707 : qx_code 394 1707 = some (1707, .aload_n 3, 1708, 0, 0, 0) := by decide +kernel
theorem s394_1707 {L : Nat} {xs : Nat → Int32} {d x : Nat} {M : qxM} {st : List Value} {a0 a1 a2 a4 a5 a6 a7 a8 : Option Value} {z : Nat} : Rs L xs (d) 394 1707 [a0, a1, a2, some (.ref z), a4, a5, a6, a7, a8] st M x = Rs L xs (d) 394 1708 [a0, a1, a2, some (.ref z), a4, a5, a6, a7, a8] (.ref z :: st) M x := Rs_next c394_1707 rfl
theorem c394_1708 : qx_code 394 1708 = some (1708, .iconst 0, 1709, 0, 0, 0) := by decide +kernel
theorem s394_1708 {L : Nat} {xs : Nat → Int32} {d x : Nat} {M : qxM} {st : List Value} {ls : qxL} : Rs L xs (d) 394 1708 ls st M x = Rs L xs (d) 394 1709 ls (.int (nI 0) :: st) M x := Rs_next c394_1708 rfl
theorem c394_1709 : qx_code 394 1709 = some (1709, .laload, 1710, 0, 0, 0) := by decide +kernel
theorem s394_1709 {L : Nat} {xs : Nat → Int32} {d x : Nat} {M : qxM} {st : List Value} {ls : qxL} {t : Nat} {j : Int32} (hk : qx_kd t = 4) (hj : qx_ib j (qx_ln t) = true) : Rs L xs (d) 394 1709 ls (.int j :: .ref t :: st) M x = Rs L xs (d) 394 1710 ls (.long (M.2.1 j.toNatClampNeg) :: st) M x := by
  have h1 := qx_kd_row (k := 4) (by decide) hk
  exact Rs_unless (qx_ib_not hj) c394_1709 (by unfold qx_act; dsimp only; rw [h1]; rfl)
theorem c394_1710 : qx_code 394 1710 = some (1710, .iload 7, 1712, 0, 0, 0) := by decide +kernel
theorem s394_1710 {L : Nat} {xs : Nat → Int32} {d x : Nat} {M : qxM} {st : List Value} {a0 a1 a2 a3 a4 a5 a6 a8 : Option Value} {z : Int32} : Rs L xs (d) 394 1710 [a0, a1, a2, a3, a4, a5, a6, some (.int z), a8] st M x = Rs L xs (d) 394 1712 [a0, a1, a2, a3, a4, a5, a6, some (.int z), a8] (.int z :: st) M x := Rs_next c394_1710 rfl
theorem c394_1712 : qx_code 394 1712 = some (1712, .i2l, 1713, 0, 0, 0) := by decide +kernel
theorem s394_1712 {L : Nat} {xs : Nat → Int32} {d x : Nat} {M : qxM} {st : List Value} {ls : qxL} {z : Int32} : Rs L xs (d) 394 1712 ls (.int z :: st) M x = Rs L xs (d) 394 1713 ls (.long z.toInt64 :: st) M x := Rs_next c394_1712 rfl
theorem c394_1713 : qx_code 394 1713 = some (1713, .lcmp, 1714, 0, 0, 0) := by decide +kernel
theorem s394_1713 {L : Nat} {xs : Nat → Int32} {d x : Nat} {M : qxM} {st : List Value} {ls : qxL} {z y : Int64} : Rs L xs (d) 394 1713 ls (.long y :: .long z :: st) M x = Rs L xs (d) 394 1714 ls (.int (lg_cmp z y) :: st) M x := Rs_next c394_1713 rfl
theorem c394_1714 : qx_code 394 1714 = some (1714, .ifCond .eq 5, 1717, 1719, 0, 0) := by decide +kernel
theorem s394_1714 {L : Nat} {xs : Nat → Int32} {d x : Nat} {M : qxM} {st : List Value} {ls : qxL} {z : Int32} : Rs L xs (d) 394 1714 ls (.int z :: st) M x = if z = 0 then Rs L xs (d) 394 1719 ls st M x else Rs L xs (d) 394 1717 ls st M x := Rs_ite c394_1714 rfl
theorem c394_1719 : qx_code 394 1719 = some (1719, .goto 2027, 1722, 3746, 0, 0) := by decide +kernel
theorem s394_1719 {L : Nat} {xs : Nat → Int32} {d x : Nat} {M : qxM} {st : List Value} {ls : qxL} : Rs L xs (d) 394 1719 ls st M x = Rs L xs (d) 394 3746 ls st M x := Rs_next c394_1719 rfl
theorem c394_1722 : qx_code 394 1722 = some (1722, .aload_n 1, 1723, 0, 0, 0) := by decide +kernel
theorem s394_1722 {L : Nat} {xs : Nat → Int32} {d x : Nat} {M : qxM} {st : List Value} {a0 a2 a3 a4 a5 a6 a7 a8 : Option Value} {z : Nat} : Rs L xs (d) 394 1722 [a0, some (.ref z), a2, a3, a4, a5, a6, a7, a8] st M x = Rs L xs (d) 394 1723 [a0, some (.ref z), a2, a3, a4, a5, a6, a7, a8] (.ref z :: st) M x := Rs_next c394_1722 rfl
theorem c394_1723 : qx_code 394 1723 = some (1723, .aload_n 3, 1724, 0, 0, 0) := by decide +kernel
theorem s394_1723 {L : Nat} {xs : Nat → Int32} {d x : Nat} {M : qxM} {st : List Value} {a0 a1 a2 a4 a5 a6 a7 a8 : Option Value} {z : Nat} : Rs L xs (d) 394 1723 [a0, a1, a2, some (.ref z), a4, a5, a6, a7, a8] st M x = Rs L xs (d) 394 1724 [a0, a1, a2, some (.ref z), a4, a5, a6, a7, a8] (.ref z :: st) M x := Rs_next c394_1723 rfl
theorem c394_1724 : qx_code 394 1724 = some (1724, .invokestatic 302, 1727, 358, 2, 1073) := by decide +kernel
theorem s394_1724 {L : Nat} {xs : Nat → Int32} {d x : Nat} {M : qxM} {st : List Value} {ls : qxL} {z0 : Nat} {z1 : Nat} (hs : st.length ≤ 4) : Rs L xs (d + 1) 394 1724 ls (.ref z1 :: .ref z0 :: st) M x = (Rs L xs d 358 0 [some (.ref z0), some (.ref z1), none] [] M 0).bind (qx_kn L xs (d + 1) 394 1724 1727 358 ls st x) := by
  have h1 : qx_act L xs (qx_rt 394) (1724, .invokestatic 302, 1727, 358, 2, 1073) ls (.ref z1 :: .ref z0 :: st) M = if 2 ≤ (.ref z1 :: .ref z0 :: st).length ∧ st.length ≤ 4 then some (.inr (.inr (.inr (358, [.ref z0, .ref z1], st)))) else none := rfl
  rw [if_pos ⟨by simp [List.length_cons]; try omega, hs⟩] at h1
  exact Rs_call c394_1724 h1 rfl
theorem c394_1727 : qx_code 394 1727 = some (1727, .istore 6, 1729, 0, 0, 0) := by decide +kernel
theorem s394_1727i {L : Nat} {xs : Nat → Int32} {d x : Nat} {M : qxM} {st : List Value} {a0 a1 a2 a3 a4 a6 a7 a8 : Option Value} {z : Int32} {y : Int32} : Rs L xs (d) 394 1727 [a0, a1, a2, a3, a4, some (.int y), a6, a7, a8] (.int z :: st) M x = Rs L xs (d) 394 1729 [a0, a1, a2, a3, a4, some (.int y), some (.int z), a7, a8] st M x := Rs_next c394_1727 rfl
theorem c394_1729 : qx_code 394 1729 = some (1729, .aload_n 2, 1730, 0, 0, 0) := by decide +kernel
theorem s394_1729 {L : Nat} {xs : Nat → Int32} {d x : Nat} {M : qxM} {st : List Value} {a0 a1 a3 a4 a5 a6 a7 a8 : Option Value} {z : Nat} : Rs L xs (d) 394 1729 [a0, a1, some (.ref z), a3, a4, a5, a6, a7, a8] st M x = Rs L xs (d) 394 1730 [a0, a1, some (.ref z), a3, a4, a5, a6, a7, a8] (.ref z :: st) M x := Rs_next c394_1729 rfl
theorem c394_1730 : qx_code 394 1730 = some (1730, .invokevirtual 304, 1733, 284, 1, 1966) := by decide +kernel
theorem s394_1730 {L : Nat} {xs : Nat → Int32} {d x : Nat} {M : qxM} {st : List Value} {ls : qxL} {t : Nat} (hk : qx_kd t = 18) (hs : st.length ≤ 4) : Rs L xs (d + 1) 394 1730 ls (.ref t :: st) M x = (Rs L xs d 284 0 [some (.ref t)] [] M 0).bind (qx_kn L xs (d + 1) 394 1730 1733 284 ls st x) := by
  have h1 : qx_act L xs (qx_rt 394) (1730, .invokevirtual 304, 1733, 284, 1, 1966) ls (.ref t :: st) M = if 1 ≤ (.ref t :: st).length ∧ st.length ≤ 4 then some (.inr (.inr (.inr (284, [.ref t], st)))) else none := rfl
  rw [if_pos ⟨by simp [List.length_cons]; try omega, hs⟩] at h1
  have h2 := qx_kd_obj (k := 8) (by decide) hk
  exact Rs_call c394_1730 h1 (by rw [show qx_args 284 [.ref t] = decide (qx_sh t = some (.inl 8)) from rfl]; exact decide_eq_true h2)
theorem c394_1733 : qx_code 394 1733 = some (1733, .istore 7, 1735, 0, 0, 0) := by decide +kernel
theorem s394_1733i {L : Nat} {xs : Nat → Int32} {d x : Nat} {M : qxM} {st : List Value} {a0 a1 a2 a3 a4 a5 a7 a8 : Option Value} {z : Int32} {y : Int32} : Rs L xs (d) 394 1733 [a0, a1, a2, a3, a4, a5, some (.int y), a7, a8] (.int z :: st) M x = Rs L xs (d) 394 1735 [a0, a1, a2, a3, a4, a5, some (.int y), some (.int z), a8] st M x := Rs_next c394_1733 rfl
theorem c394_1735 : qx_code 394 1735 = some (1735, .aload_n 2, 1736, 0, 0, 0) := by decide +kernel
theorem s394_1735 {L : Nat} {xs : Nat → Int32} {d x : Nat} {M : qxM} {st : List Value} {a0 a1 a3 a4 a5 a6 a7 a8 : Option Value} {z : Nat} : Rs L xs (d) 394 1735 [a0, a1, some (.ref z), a3, a4, a5, a6, a7, a8] st M x = Rs L xs (d) 394 1736 [a0, a1, some (.ref z), a3, a4, a5, a6, a7, a8] (.ref z :: st) M x := Rs_next c394_1735 rfl
theorem c394_1736 : qx_code 394 1736 = some (1736, .invokevirtual 218, 1739, 177, 1, 1613) := by decide +kernel
theorem s394_1736 {L : Nat} {xs : Nat → Int32} {d x : Nat} {M : qxM} {st : List Value} {ls : qxL} {t : Nat} (hk : qx_kd t = 18) (hs : st.length ≤ 4) : Rs L xs (d + 1) 394 1736 ls (.ref t :: st) M x = (Rs L xs d 177 0 [some (.ref t)] [] M 0).bind (qx_kn L xs (d + 1) 394 1736 1739 177 ls st x) := by
  have h1 : qx_act L xs (qx_rt 394) (1736, .invokevirtual 218, 1739, 177, 1, 1613) ls (.ref t :: st) M = if 1 ≤ (.ref t :: st).length ∧ st.length ≤ 4 then some (.inr (.inr (.inr (177, [.ref t], st)))) else none := rfl
  rw [if_pos ⟨by simp [List.length_cons]; try omega, hs⟩] at h1
  have h2 := qx_kd_obj (k := 8) (by decide) hk
  exact Rs_call c394_1736 h1 (by rw [show qx_args 177 [.ref t] = decide (qx_sh t = some (.inl 8)) from rfl]; exact decide_eq_true h2)
theorem c394_1739 : qx_code 394 1739 = some (1739, .iload 6, 1741, 0, 0, 0) := by decide +kernel
theorem s394_1739 {L : Nat} {xs : Nat → Int32} {d x : Nat} {M : qxM} {st : List Value} {a0 a1 a2 a3 a4 a5 a7 a8 : Option Value} {z : Int32} : Rs L xs (d) 394 1739 [a0, a1, a2, a3, a4, a5, some (.int z), a7, a8] st M x = Rs L xs (d) 394 1741 [a0, a1, a2, a3, a4, a5, some (.int z), a7, a8] (.int z :: st) M x := Rs_next c394_1739 rfl
theorem c394_1741 : qx_code 394 1741 = some (1741, .if_icmp .eq 5, 1744, 1746, 0, 0) := by decide +kernel
theorem s394_1741 {L : Nat} {xs : Nat → Int32} {d x : Nat} {M : qxM} {st : List Value} {ls : qxL} {z y : Int32} : Rs L xs (d) 394 1741 ls (.int y :: .int z :: st) M x = if z = y then Rs L xs (d) 394 1746 ls st M x else Rs L xs (d) 394 1744 ls st M x := Rs_ite c394_1741 rfl
theorem c394_1746 : qx_code 394 1746 = some (1746, .iload 6, 1748, 0, 0, 0) := by decide +kernel
theorem s394_1746 {L : Nat} {xs : Nat → Int32} {d x : Nat} {M : qxM} {st : List Value} {a0 a1 a2 a3 a4 a5 a7 a8 : Option Value} {z : Int32} : Rs L xs (d) 394 1746 [a0, a1, a2, a3, a4, a5, some (.int z), a7, a8] st M x = Rs L xs (d) 394 1748 [a0, a1, a2, a3, a4, a5, some (.int z), a7, a8] (.int z :: st) M x := Rs_next c394_1746 rfl
theorem c394_1748 : qx_code 394 1748 = some (1748, .ifCond .ne 15, 1751, 1763, 0, 0) := by decide +kernel
theorem s394_1748 {L : Nat} {xs : Nat → Int32} {d x : Nat} {M : qxM} {st : List Value} {ls : qxL} {z : Int32} : Rs L xs (d) 394 1748 ls (.int z :: st) M x = if z = 0 then Rs L xs (d) 394 1751 ls st M x else Rs L xs (d) 394 1763 ls st M x := Rs_ite c394_1748 rfl
theorem c394_1751 : qx_code 394 1751 = some (1751, .aload_n 3, 1752, 0, 0, 0) := by decide +kernel
theorem s394_1751 {L : Nat} {xs : Nat → Int32} {d x : Nat} {M : qxM} {st : List Value} {a0 a1 a2 a4 a5 a6 a7 a8 : Option Value} {z : Nat} : Rs L xs (d) 394 1751 [a0, a1, a2, some (.ref z), a4, a5, a6, a7, a8] st M x = Rs L xs (d) 394 1752 [a0, a1, a2, some (.ref z), a4, a5, a6, a7, a8] (.ref z :: st) M x := Rs_next c394_1751 rfl
theorem c394_1752 : qx_code 394 1752 = some (1752, .iconst 0, 1753, 0, 0, 0) := by decide +kernel
theorem s394_1752 {L : Nat} {xs : Nat → Int32} {d x : Nat} {M : qxM} {st : List Value} {ls : qxL} : Rs L xs (d) 394 1752 ls st M x = Rs L xs (d) 394 1753 ls (.int (nI 0) :: st) M x := Rs_next c394_1752 rfl
theorem c394_1753 : qx_code 394 1753 = some (1753, .laload, 1754, 0, 0, 0) := by decide +kernel
theorem s394_1753 {L : Nat} {xs : Nat → Int32} {d x : Nat} {M : qxM} {st : List Value} {ls : qxL} {t : Nat} {j : Int32} (hk : qx_kd t = 4) (hj : qx_ib j (qx_ln t) = true) : Rs L xs (d) 394 1753 ls (.int j :: .ref t :: st) M x = Rs L xs (d) 394 1754 ls (.long (M.2.1 j.toNatClampNeg) :: st) M x := by
  have h1 := qx_kd_row (k := 4) (by decide) hk
  exact Rs_unless (qx_ib_not hj) c394_1753 (by unfold qx_act; dsimp only; rw [h1]; rfl)
theorem c394_1754 : qx_code 394 1754 = some (1754, .iload 7, 1756, 0, 0, 0) := by decide +kernel
theorem s394_1754 {L : Nat} {xs : Nat → Int32} {d x : Nat} {M : qxM} {st : List Value} {a0 a1 a2 a3 a4 a5 a6 a8 : Option Value} {z : Int32} : Rs L xs (d) 394 1754 [a0, a1, a2, a3, a4, a5, a6, some (.int z), a8] st M x = Rs L xs (d) 394 1756 [a0, a1, a2, a3, a4, a5, a6, some (.int z), a8] (.int z :: st) M x := Rs_next c394_1754 rfl
theorem c394_1756 : qx_code 394 1756 = some (1756, .i2l, 1757, 0, 0, 0) := by decide +kernel
theorem s394_1756 {L : Nat} {xs : Nat → Int32} {d x : Nat} {M : qxM} {st : List Value} {ls : qxL} {z : Int32} : Rs L xs (d) 394 1756 ls (.int z :: st) M x = Rs L xs (d) 394 1757 ls (.long z.toInt64 :: st) M x := Rs_next c394_1756 rfl
theorem c394_1757 : qx_code 394 1757 = some (1757, .lcmp, 1758, 0, 0, 0) := by decide +kernel
theorem s394_1757 {L : Nat} {xs : Nat → Int32} {d x : Nat} {M : qxM} {st : List Value} {ls : qxL} {z y : Int64} : Rs L xs (d) 394 1757 ls (.long y :: .long z :: st) M x = Rs L xs (d) 394 1758 ls (.int (lg_cmp z y) :: st) M x := Rs_next c394_1757 rfl
theorem c394_1758 : qx_code 394 1758 = some (1758, .ifCond .eq 5, 1761, 1763, 0, 0) := by decide +kernel
theorem s394_1758 {L : Nat} {xs : Nat → Int32} {d x : Nat} {M : qxM} {st : List Value} {ls : qxL} {z : Int32} : Rs L xs (d) 394 1758 ls (.int z :: st) M x = if z = 0 then Rs L xs (d) 394 1763 ls st M x else Rs L xs (d) 394 1761 ls st M x := Rs_ite c394_1758 rfl
theorem c394_1763 : qx_code 394 1763 = some (1763, .goto 1983, 1766, 3746, 0, 0) := by decide +kernel
theorem s394_1763 {L : Nat} {xs : Nat → Int32} {d x : Nat} {M : qxM} {st : List Value} {ls : qxL} : Rs L xs (d) 394 1763 ls st M x = Rs L xs (d) 394 3746 ls st M x := Rs_next c394_1763 rfl
theorem c394_1766 : qx_code 394 1766 = some (1766, .aload_n 1, 1767, 0, 0, 0) := by decide +kernel
theorem s394_1766 {L : Nat} {xs : Nat → Int32} {d x : Nat} {M : qxM} {st : List Value} {a0 a2 a3 a4 a5 a6 a7 a8 : Option Value} {z : Nat} : Rs L xs (d) 394 1766 [a0, some (.ref z), a2, a3, a4, a5, a6, a7, a8] st M x = Rs L xs (d) 394 1767 [a0, some (.ref z), a2, a3, a4, a5, a6, a7, a8] (.ref z :: st) M x := Rs_next c394_1766 rfl
theorem c394_1767 : qx_code 394 1767 = some (1767, .aload_n 0, 1768, 0, 0, 0) := by decide +kernel
theorem s394_1767 {L : Nat} {xs : Nat → Int32} {d x : Nat} {M : qxM} {st : List Value} {a1 a2 a3 a4 a5 a6 a7 a8 : Option Value} {z : Nat} : Rs L xs (d) 394 1767 [some (.ref z), a1, a2, a3, a4, a5, a6, a7, a8] st M x = Rs L xs (d) 394 1768 [some (.ref z), a1, a2, a3, a4, a5, a6, a7, a8] (.ref z :: st) M x := Rs_next c394_1767 rfl
theorem c394_1768 : qx_code 394 1768 = some (1768, .iload 5, 1770, 0, 0, 0) := by decide +kernel
theorem s394_1768 {L : Nat} {xs : Nat → Int32} {d x : Nat} {M : qxM} {st : List Value} {a0 a1 a2 a3 a4 a6 a7 a8 : Option Value} {z : Int32} : Rs L xs (d) 394 1768 [a0, a1, a2, a3, a4, some (.int z), a6, a7, a8] st M x = Rs L xs (d) 394 1770 [a0, a1, a2, a3, a4, some (.int z), a6, a7, a8] (.int z :: st) M x := Rs_next c394_1768 rfl
theorem c394_1770 : qx_code 394 1770 = some (1770, .iconst 1, 1771, 0, 0, 0) := by decide +kernel
theorem s394_1770 {L : Nat} {xs : Nat → Int32} {d x : Nat} {M : qxM} {st : List Value} {ls : qxL} : Rs L xs (d) 394 1770 ls st M x = Rs L xs (d) 394 1771 ls (.int (nI 1) :: st) M x := Rs_next c394_1770 rfl
theorem c394_1771 : qx_code 394 1771 = some (1771, .iadd, 1772, 0, 0, 0) := by decide +kernel
theorem s394_1771 {L : Nat} {xs : Nat → Int32} {d x : Nat} {M : qxM} {st : List Value} {ls : qxL} {z y : Int32} : Rs L xs (d) 394 1771 ls (.int y :: .int z :: st) M x = Rs L xs (d) 394 1772 ls (.int (z + y) :: st) M x := Rs_next c394_1771 rfl
theorem c394_1772 : qx_code 394 1772 = some (1772, .iaload, 1773, 0, 0, 0) := by decide +kernel
theorem s394_1772s {L : Nat} {xs : Nat → Int32} {d x : Nat} {M : qxM} {st : List Value} {ls : qxL} {j : Int32} (hj : qx_ib j L = true) : Rs L xs (d) 394 1772 ls (.int j :: .ref 1 :: st) M x = Rs L xs (d) 394 1773 ls (.int (xs j.toNatClampNeg) :: st) M x := Rs_unless (qx_ib_not hj) c394_1772 rfl
theorem c394_1773 : qx_code 394 1773 = some (1773, .aload_n 3, 1774, 0, 0, 0) := by decide +kernel
theorem s394_1773 {L : Nat} {xs : Nat → Int32} {d x : Nat} {M : qxM} {st : List Value} {a0 a1 a2 a4 a5 a6 a7 a8 : Option Value} {z : Nat} : Rs L xs (d) 394 1773 [a0, a1, a2, some (.ref z), a4, a5, a6, a7, a8] st M x = Rs L xs (d) 394 1774 [a0, a1, a2, some (.ref z), a4, a5, a6, a7, a8] (.ref z :: st) M x := Rs_next c394_1773 rfl
theorem c394_1774 : qx_code 394 1774 = some (1774, .invokestatic 305, 1777, 359, 3, 1088) := by decide +kernel
theorem s394_1774 {L : Nat} {xs : Nat → Int32} {d x : Nat} {M : qxM} {st : List Value} {ls : qxL} {z0 : Nat} {z1 : Int32} {z2 : Nat} (hs : st.length ≤ 4) : Rs L xs (d + 1) 394 1774 ls (.ref z2 :: .int z1 :: .ref z0 :: st) M x = (Rs L xs d 359 0 [some (.ref z0), some (.int z1), some (.ref z2), none] [] M 0).bind (qx_kn L xs (d + 1) 394 1774 1777 359 ls st x) := by
  have h1 : qx_act L xs (qx_rt 394) (1774, .invokestatic 305, 1777, 359, 3, 1088) ls (.ref z2 :: .int z1 :: .ref z0 :: st) M = if 3 ≤ (.ref z2 :: .int z1 :: .ref z0 :: st).length ∧ st.length ≤ 4 then some (.inr (.inr (.inr (359, [.ref z0, .int z1, .ref z2], st)))) else none := rfl
  rw [if_pos ⟨by simp [List.length_cons]; try omega, hs⟩] at h1
  exact Rs_call c394_1774 h1 rfl
theorem c394_1777 : qx_code 394 1777 = some (1777, .istore 6, 1779, 0, 0, 0) := by decide +kernel
theorem s394_1777i {L : Nat} {xs : Nat → Int32} {d x : Nat} {M : qxM} {st : List Value} {a0 a1 a2 a3 a4 a6 a7 a8 : Option Value} {z : Int32} {y : Int32} : Rs L xs (d) 394 1777 [a0, a1, a2, a3, a4, some (.int y), a6, a7, a8] (.int z :: st) M x = Rs L xs (d) 394 1779 [a0, a1, a2, a3, a4, some (.int y), some (.int z), a7, a8] st M x := Rs_next c394_1777 rfl
theorem c394_1779 : qx_code 394 1779 = some (1779, .aload_n 2, 1780, 0, 0, 0) := by decide +kernel
theorem s394_1779 {L : Nat} {xs : Nat → Int32} {d x : Nat} {M : qxM} {st : List Value} {a0 a1 a3 a4 a5 a6 a7 a8 : Option Value} {z : Nat} : Rs L xs (d) 394 1779 [a0, a1, some (.ref z), a3, a4, a5, a6, a7, a8] st M x = Rs L xs (d) 394 1780 [a0, a1, some (.ref z), a3, a4, a5, a6, a7, a8] (.ref z :: st) M x := Rs_next c394_1779 rfl
theorem c394_1780 : qx_code 394 1780 = some (1780, .aload_n 0, 1781, 0, 0, 0) := by decide +kernel
theorem s394_1780 {L : Nat} {xs : Nat → Int32} {d x : Nat} {M : qxM} {st : List Value} {a1 a2 a3 a4 a5 a6 a7 a8 : Option Value} {z : Nat} : Rs L xs (d) 394 1780 [some (.ref z), a1, a2, a3, a4, a5, a6, a7, a8] st M x = Rs L xs (d) 394 1781 [some (.ref z), a1, a2, a3, a4, a5, a6, a7, a8] (.ref z :: st) M x := Rs_next c394_1780 rfl
theorem c394_1781 : qx_code 394 1781 = some (1781, .iload 5, 1783, 0, 0, 0) := by decide +kernel
theorem s394_1781 {L : Nat} {xs : Nat → Int32} {d x : Nat} {M : qxM} {st : List Value} {a0 a1 a2 a3 a4 a6 a7 a8 : Option Value} {z : Int32} : Rs L xs (d) 394 1781 [a0, a1, a2, a3, a4, some (.int z), a6, a7, a8] st M x = Rs L xs (d) 394 1783 [a0, a1, a2, a3, a4, some (.int z), a6, a7, a8] (.int z :: st) M x := Rs_next c394_1781 rfl
theorem c394_1783 : qx_code 394 1783 = some (1783, .iconst 1, 1784, 0, 0, 0) := by decide +kernel
theorem s394_1783 {L : Nat} {xs : Nat → Int32} {d x : Nat} {M : qxM} {st : List Value} {ls : qxL} : Rs L xs (d) 394 1783 ls st M x = Rs L xs (d) 394 1784 ls (.int (nI 1) :: st) M x := Rs_next c394_1783 rfl
theorem c394_1784 : qx_code 394 1784 = some (1784, .iadd, 1785, 0, 0, 0) := by decide +kernel
theorem s394_1784 {L : Nat} {xs : Nat → Int32} {d x : Nat} {M : qxM} {st : List Value} {ls : qxL} {z y : Int32} : Rs L xs (d) 394 1784 ls (.int y :: .int z :: st) M x = Rs L xs (d) 394 1785 ls (.int (z + y) :: st) M x := Rs_next c394_1784 rfl
theorem c394_1785 : qx_code 394 1785 = some (1785, .iaload, 1786, 0, 0, 0) := by decide +kernel
theorem s394_1785s {L : Nat} {xs : Nat → Int32} {d x : Nat} {M : qxM} {st : List Value} {ls : qxL} {j : Int32} (hj : qx_ib j L = true) : Rs L xs (d) 394 1785 ls (.int j :: .ref 1 :: st) M x = Rs L xs (d) 394 1786 ls (.int (xs j.toNatClampNeg) :: st) M x := Rs_unless (qx_ib_not hj) c394_1785 rfl
theorem c394_1786 : qx_code 394 1786 = some (1786, .invokevirtual 307, 1789, 285, 2, 1982) := by decide +kernel
theorem s394_1786 {L : Nat} {xs : Nat → Int32} {d x : Nat} {M : qxM} {st : List Value} {ls : qxL} {t : Nat} {z0 : Int32} (hk : qx_kd t = 18) (hs : st.length ≤ 4) : Rs L xs (d + 1) 394 1786 ls (.int z0 :: .ref t :: st) M x = (Rs L xs d 285 0 [some (.ref t), some (.int z0)] [] M 0).bind (qx_kn L xs (d + 1) 394 1786 1789 285 ls st x) := by
  have h1 : qx_act L xs (qx_rt 394) (1786, .invokevirtual 307, 1789, 285, 2, 1982) ls (.int z0 :: .ref t :: st) M = if 2 ≤ (.int z0 :: .ref t :: st).length ∧ st.length ≤ 4 then some (.inr (.inr (.inr (285, [.ref t, .int z0], st)))) else none := rfl
  rw [if_pos ⟨by simp [List.length_cons]; try omega, hs⟩] at h1
  have h2 := qx_kd_obj (k := 8) (by decide) hk
  exact Rs_call c394_1786 h1 (by rw [show qx_args 285 [.ref t, .int z0] = decide (qx_sh t = some (.inl 8)) from rfl]; exact decide_eq_true h2)
theorem c394_1789 : qx_code 394 1789 = some (1789, .istore 7, 1791, 0, 0, 0) := by decide +kernel
theorem s394_1789i {L : Nat} {xs : Nat → Int32} {d x : Nat} {M : qxM} {st : List Value} {a0 a1 a2 a3 a4 a5 a7 a8 : Option Value} {z : Int32} {y : Int32} : Rs L xs (d) 394 1789 [a0, a1, a2, a3, a4, a5, some (.int y), a7, a8] (.int z :: st) M x = Rs L xs (d) 394 1791 [a0, a1, a2, a3, a4, a5, some (.int y), some (.int z), a8] st M x := Rs_next c394_1789 rfl
theorem c394_1791 : qx_code 394 1791 = some (1791, .aload_n 2, 1792, 0, 0, 0) := by decide +kernel
theorem s394_1791 {L : Nat} {xs : Nat → Int32} {d x : Nat} {M : qxM} {st : List Value} {a0 a1 a3 a4 a5 a6 a7 a8 : Option Value} {z : Nat} : Rs L xs (d) 394 1791 [a0, a1, some (.ref z), a3, a4, a5, a6, a7, a8] st M x = Rs L xs (d) 394 1792 [a0, a1, some (.ref z), a3, a4, a5, a6, a7, a8] (.ref z :: st) M x := Rs_next c394_1791 rfl
theorem c394_1792 : qx_code 394 1792 = some (1792, .invokevirtual 218, 1795, 177, 1, 1613) := by decide +kernel
theorem s394_1792 {L : Nat} {xs : Nat → Int32} {d x : Nat} {M : qxM} {st : List Value} {ls : qxL} {t : Nat} (hk : qx_kd t = 18) (hs : st.length ≤ 4) : Rs L xs (d + 1) 394 1792 ls (.ref t :: st) M x = (Rs L xs d 177 0 [some (.ref t)] [] M 0).bind (qx_kn L xs (d + 1) 394 1792 1795 177 ls st x) := by
  have h1 : qx_act L xs (qx_rt 394) (1792, .invokevirtual 218, 1795, 177, 1, 1613) ls (.ref t :: st) M = if 1 ≤ (.ref t :: st).length ∧ st.length ≤ 4 then some (.inr (.inr (.inr (177, [.ref t], st)))) else none := rfl
  rw [if_pos ⟨by simp [List.length_cons]; try omega, hs⟩] at h1
  have h2 := qx_kd_obj (k := 8) (by decide) hk
  exact Rs_call c394_1792 h1 (by rw [show qx_args 177 [.ref t] = decide (qx_sh t = some (.inl 8)) from rfl]; exact decide_eq_true h2)
theorem c394_1795 : qx_code 394 1795 = some (1795, .iload 6, 1797, 0, 0, 0) := by decide +kernel
theorem s394_1795 {L : Nat} {xs : Nat → Int32} {d x : Nat} {M : qxM} {st : List Value} {a0 a1 a2 a3 a4 a5 a7 a8 : Option Value} {z : Int32} : Rs L xs (d) 394 1795 [a0, a1, a2, a3, a4, a5, some (.int z), a7, a8] st M x = Rs L xs (d) 394 1797 [a0, a1, a2, a3, a4, a5, some (.int z), a7, a8] (.int z :: st) M x := Rs_next c394_1795 rfl
theorem c394_1797 : qx_code 394 1797 = some (1797, .if_icmp .eq 5, 1800, 1802, 0, 0) := by decide +kernel
theorem s394_1797 {L : Nat} {xs : Nat → Int32} {d x : Nat} {M : qxM} {st : List Value} {ls : qxL} {z y : Int32} : Rs L xs (d) 394 1797 ls (.int y :: .int z :: st) M x = if z = y then Rs L xs (d) 394 1802 ls st M x else Rs L xs (d) 394 1800 ls st M x := Rs_ite c394_1797 rfl
theorem c394_1802 : qx_code 394 1802 = some (1802, .iload 6, 1804, 0, 0, 0) := by decide +kernel
theorem s394_1802 {L : Nat} {xs : Nat → Int32} {d x : Nat} {M : qxM} {st : List Value} {a0 a1 a2 a3 a4 a5 a7 a8 : Option Value} {z : Int32} : Rs L xs (d) 394 1802 [a0, a1, a2, a3, a4, a5, some (.int z), a7, a8] st M x = Rs L xs (d) 394 1804 [a0, a1, a2, a3, a4, a5, some (.int z), a7, a8] (.int z :: st) M x := Rs_next c394_1802 rfl
theorem c394_1804 : qx_code 394 1804 = some (1804, .ifCond .ne 15, 1807, 1819, 0, 0) := by decide +kernel
theorem s394_1804 {L : Nat} {xs : Nat → Int32} {d x : Nat} {M : qxM} {st : List Value} {ls : qxL} {z : Int32} : Rs L xs (d) 394 1804 ls (.int z :: st) M x = if z = 0 then Rs L xs (d) 394 1807 ls st M x else Rs L xs (d) 394 1819 ls st M x := Rs_ite c394_1804 rfl
theorem c394_1807 : qx_code 394 1807 = some (1807, .aload_n 3, 1808, 0, 0, 0) := by decide +kernel
theorem s394_1807 {L : Nat} {xs : Nat → Int32} {d x : Nat} {M : qxM} {st : List Value} {a0 a1 a2 a4 a5 a6 a7 a8 : Option Value} {z : Nat} : Rs L xs (d) 394 1807 [a0, a1, a2, some (.ref z), a4, a5, a6, a7, a8] st M x = Rs L xs (d) 394 1808 [a0, a1, a2, some (.ref z), a4, a5, a6, a7, a8] (.ref z :: st) M x := Rs_next c394_1807 rfl
theorem c394_1808 : qx_code 394 1808 = some (1808, .iconst 0, 1809, 0, 0, 0) := by decide +kernel
theorem s394_1808 {L : Nat} {xs : Nat → Int32} {d x : Nat} {M : qxM} {st : List Value} {ls : qxL} : Rs L xs (d) 394 1808 ls st M x = Rs L xs (d) 394 1809 ls (.int (nI 0) :: st) M x := Rs_next c394_1808 rfl
theorem c394_1809 : qx_code 394 1809 = some (1809, .laload, 1810, 0, 0, 0) := by decide +kernel
theorem s394_1809 {L : Nat} {xs : Nat → Int32} {d x : Nat} {M : qxM} {st : List Value} {ls : qxL} {t : Nat} {j : Int32} (hk : qx_kd t = 4) (hj : qx_ib j (qx_ln t) = true) : Rs L xs (d) 394 1809 ls (.int j :: .ref t :: st) M x = Rs L xs (d) 394 1810 ls (.long (M.2.1 j.toNatClampNeg) :: st) M x := by
  have h1 := qx_kd_row (k := 4) (by decide) hk
  exact Rs_unless (qx_ib_not hj) c394_1809 (by unfold qx_act; dsimp only; rw [h1]; rfl)
theorem c394_1810 : qx_code 394 1810 = some (1810, .iload 7, 1812, 0, 0, 0) := by decide +kernel
theorem s394_1810 {L : Nat} {xs : Nat → Int32} {d x : Nat} {M : qxM} {st : List Value} {a0 a1 a2 a3 a4 a5 a6 a8 : Option Value} {z : Int32} : Rs L xs (d) 394 1810 [a0, a1, a2, a3, a4, a5, a6, some (.int z), a8] st M x = Rs L xs (d) 394 1812 [a0, a1, a2, a3, a4, a5, a6, some (.int z), a8] (.int z :: st) M x := Rs_next c394_1810 rfl
theorem c394_1812 : qx_code 394 1812 = some (1812, .i2l, 1813, 0, 0, 0) := by decide +kernel
theorem s394_1812 {L : Nat} {xs : Nat → Int32} {d x : Nat} {M : qxM} {st : List Value} {ls : qxL} {z : Int32} : Rs L xs (d) 394 1812 ls (.int z :: st) M x = Rs L xs (d) 394 1813 ls (.long z.toInt64 :: st) M x := Rs_next c394_1812 rfl
theorem c394_1813 : qx_code 394 1813 = some (1813, .lcmp, 1814, 0, 0, 0) := by decide +kernel
theorem s394_1813 {L : Nat} {xs : Nat → Int32} {d x : Nat} {M : qxM} {st : List Value} {ls : qxL} {z y : Int64} : Rs L xs (d) 394 1813 ls (.long y :: .long z :: st) M x = Rs L xs (d) 394 1814 ls (.int (lg_cmp z y) :: st) M x := Rs_next c394_1813 rfl
theorem c394_1814 : qx_code 394 1814 = some (1814, .ifCond .eq 5, 1817, 1819, 0, 0) := by decide +kernel
theorem s394_1814 {L : Nat} {xs : Nat → Int32} {d x : Nat} {M : qxM} {st : List Value} {ls : qxL} {z : Int32} : Rs L xs (d) 394 1814 ls (.int z :: st) M x = if z = 0 then Rs L xs (d) 394 1819 ls st M x else Rs L xs (d) 394 1817 ls st M x := Rs_ite c394_1814 rfl
theorem c394_1819 : qx_code 394 1819 = some (1819, .goto 1927, 1822, 3746, 0, 0) := by decide +kernel
theorem s394_1819 {L : Nat} {xs : Nat → Int32} {d x : Nat} {M : qxM} {st : List Value} {ls : qxL} : Rs L xs (d) 394 1819 ls st M x = Rs L xs (d) 394 3746 ls st M x := Rs_next c394_1819 rfl
theorem c394_1822 : qx_code 394 1822 = some (1822, .aload_n 1, 1823, 0, 0, 0) := by decide +kernel
theorem s394_1822 {L : Nat} {xs : Nat → Int32} {d x : Nat} {M : qxM} {st : List Value} {a0 a2 a3 a4 a5 a6 a7 a8 : Option Value} {z : Nat} : Rs L xs (d) 394 1822 [a0, some (.ref z), a2, a3, a4, a5, a6, a7, a8] st M x = Rs L xs (d) 394 1823 [a0, some (.ref z), a2, a3, a4, a5, a6, a7, a8] (.ref z :: st) M x := Rs_next c394_1822 rfl
theorem c394_1823 : qx_code 394 1823 = some (1823, .aload_n 3, 1824, 0, 0, 0) := by decide +kernel
theorem s394_1823 {L : Nat} {xs : Nat → Int32} {d x : Nat} {M : qxM} {st : List Value} {a0 a1 a2 a4 a5 a6 a7 a8 : Option Value} {z : Nat} : Rs L xs (d) 394 1823 [a0, a1, a2, some (.ref z), a4, a5, a6, a7, a8] st M x = Rs L xs (d) 394 1824 [a0, a1, a2, some (.ref z), a4, a5, a6, a7, a8] (.ref z :: st) M x := Rs_next c394_1823 rfl
theorem c394_1824 : qx_code 394 1824 = some (1824, .invokestatic 308, 1827, 360, 2, 1096) := by decide +kernel
theorem s394_1824 {L : Nat} {xs : Nat → Int32} {d x : Nat} {M : qxM} {st : List Value} {ls : qxL} {z0 : Nat} {z1 : Nat} (hs : st.length ≤ 4) : Rs L xs (d + 1) 394 1824 ls (.ref z1 :: .ref z0 :: st) M x = (Rs L xs d 360 0 [some (.ref z0), some (.ref z1), none] [] M 0).bind (qx_kn L xs (d + 1) 394 1824 1827 360 ls st x) := by
  have h1 : qx_act L xs (qx_rt 394) (1824, .invokestatic 308, 1827, 360, 2, 1096) ls (.ref z1 :: .ref z0 :: st) M = if 2 ≤ (.ref z1 :: .ref z0 :: st).length ∧ st.length ≤ 4 then some (.inr (.inr (.inr (360, [.ref z0, .ref z1], st)))) else none := rfl
  rw [if_pos ⟨by simp [List.length_cons]; try omega, hs⟩] at h1
  exact Rs_call c394_1824 h1 rfl
theorem c394_1827 : qx_code 394 1827 = some (1827, .istore 6, 1829, 0, 0, 0) := by decide +kernel
theorem s394_1827i {L : Nat} {xs : Nat → Int32} {d x : Nat} {M : qxM} {st : List Value} {a0 a1 a2 a3 a4 a6 a7 a8 : Option Value} {z : Int32} {y : Int32} : Rs L xs (d) 394 1827 [a0, a1, a2, a3, a4, some (.int y), a6, a7, a8] (.int z :: st) M x = Rs L xs (d) 394 1829 [a0, a1, a2, a3, a4, some (.int y), some (.int z), a7, a8] st M x := Rs_next c394_1827 rfl
theorem c394_1829 : qx_code 394 1829 = some (1829, .aload_n 2, 1830, 0, 0, 0) := by decide +kernel
theorem s394_1829 {L : Nat} {xs : Nat → Int32} {d x : Nat} {M : qxM} {st : List Value} {a0 a1 a3 a4 a5 a6 a7 a8 : Option Value} {z : Nat} : Rs L xs (d) 394 1829 [a0, a1, some (.ref z), a3, a4, a5, a6, a7, a8] st M x = Rs L xs (d) 394 1830 [a0, a1, some (.ref z), a3, a4, a5, a6, a7, a8] (.ref z :: st) M x := Rs_next c394_1829 rfl
theorem c394_1830 : qx_code 394 1830 = some (1830, .invokevirtual 310, 1833, 286, 1, 1986) := by decide +kernel
theorem s394_1830 {L : Nat} {xs : Nat → Int32} {d x : Nat} {M : qxM} {st : List Value} {ls : qxL} {t : Nat} (hk : qx_kd t = 18) (hs : st.length ≤ 4) : Rs L xs (d + 1) 394 1830 ls (.ref t :: st) M x = (Rs L xs d 286 0 [some (.ref t), none] [] M 0).bind (qx_kn L xs (d + 1) 394 1830 1833 286 ls st x) := by
  have h1 : qx_act L xs (qx_rt 394) (1830, .invokevirtual 310, 1833, 286, 1, 1986) ls (.ref t :: st) M = if 1 ≤ (.ref t :: st).length ∧ st.length ≤ 4 then some (.inr (.inr (.inr (286, [.ref t], st)))) else none := rfl
  rw [if_pos ⟨by simp [List.length_cons]; try omega, hs⟩] at h1
  have h2 := qx_kd_obj (k := 8) (by decide) hk
  exact Rs_call c394_1830 h1 (by rw [show qx_args 286 [.ref t] = decide (qx_sh t = some (.inl 8)) from rfl]; exact decide_eq_true h2)
theorem c394_1833 : qx_code 394 1833 = some (1833, .istore 7, 1835, 0, 0, 0) := by decide +kernel
theorem s394_1833i {L : Nat} {xs : Nat → Int32} {d x : Nat} {M : qxM} {st : List Value} {a0 a1 a2 a3 a4 a5 a7 a8 : Option Value} {z : Int32} {y : Int32} : Rs L xs (d) 394 1833 [a0, a1, a2, a3, a4, a5, some (.int y), a7, a8] (.int z :: st) M x = Rs L xs (d) 394 1835 [a0, a1, a2, a3, a4, a5, some (.int y), some (.int z), a8] st M x := Rs_next c394_1833 rfl
theorem c394_1835 : qx_code 394 1835 = some (1835, .aload_n 2, 1836, 0, 0, 0) := by decide +kernel
theorem s394_1835 {L : Nat} {xs : Nat → Int32} {d x : Nat} {M : qxM} {st : List Value} {a0 a1 a3 a4 a5 a6 a7 a8 : Option Value} {z : Nat} : Rs L xs (d) 394 1835 [a0, a1, some (.ref z), a3, a4, a5, a6, a7, a8] st M x = Rs L xs (d) 394 1836 [a0, a1, some (.ref z), a3, a4, a5, a6, a7, a8] (.ref z :: st) M x := Rs_next c394_1835 rfl
theorem c394_1836 : qx_code 394 1836 = some (1836, .invokevirtual 218, 1839, 177, 1, 1613) := by decide +kernel
theorem s394_1836 {L : Nat} {xs : Nat → Int32} {d x : Nat} {M : qxM} {st : List Value} {ls : qxL} {t : Nat} (hk : qx_kd t = 18) (hs : st.length ≤ 4) : Rs L xs (d + 1) 394 1836 ls (.ref t :: st) M x = (Rs L xs d 177 0 [some (.ref t)] [] M 0).bind (qx_kn L xs (d + 1) 394 1836 1839 177 ls st x) := by
  have h1 : qx_act L xs (qx_rt 394) (1836, .invokevirtual 218, 1839, 177, 1, 1613) ls (.ref t :: st) M = if 1 ≤ (.ref t :: st).length ∧ st.length ≤ 4 then some (.inr (.inr (.inr (177, [.ref t], st)))) else none := rfl
  rw [if_pos ⟨by simp [List.length_cons]; try omega, hs⟩] at h1
  have h2 := qx_kd_obj (k := 8) (by decide) hk
  exact Rs_call c394_1836 h1 (by rw [show qx_args 177 [.ref t] = decide (qx_sh t = some (.inl 8)) from rfl]; exact decide_eq_true h2)
theorem c394_1839 : qx_code 394 1839 = some (1839, .iload 6, 1841, 0, 0, 0) := by decide +kernel
theorem s394_1839 {L : Nat} {xs : Nat → Int32} {d x : Nat} {M : qxM} {st : List Value} {a0 a1 a2 a3 a4 a5 a7 a8 : Option Value} {z : Int32} : Rs L xs (d) 394 1839 [a0, a1, a2, a3, a4, a5, some (.int z), a7, a8] st M x = Rs L xs (d) 394 1841 [a0, a1, a2, a3, a4, a5, some (.int z), a7, a8] (.int z :: st) M x := Rs_next c394_1839 rfl
theorem c394_1841 : qx_code 394 1841 = some (1841, .if_icmp .eq 5, 1844, 1846, 0, 0) := by decide +kernel
theorem s394_1841 {L : Nat} {xs : Nat → Int32} {d x : Nat} {M : qxM} {st : List Value} {ls : qxL} {z y : Int32} : Rs L xs (d) 394 1841 ls (.int y :: .int z :: st) M x = if z = y then Rs L xs (d) 394 1846 ls st M x else Rs L xs (d) 394 1844 ls st M x := Rs_ite c394_1841 rfl
theorem c394_1846 : qx_code 394 1846 = some (1846, .iload 6, 1848, 0, 0, 0) := by decide +kernel
theorem s394_1846 {L : Nat} {xs : Nat → Int32} {d x : Nat} {M : qxM} {st : List Value} {a0 a1 a2 a3 a4 a5 a7 a8 : Option Value} {z : Int32} : Rs L xs (d) 394 1846 [a0, a1, a2, a3, a4, a5, some (.int z), a7, a8] st M x = Rs L xs (d) 394 1848 [a0, a1, a2, a3, a4, a5, some (.int z), a7, a8] (.int z :: st) M x := Rs_next c394_1846 rfl
theorem c394_1848 : qx_code 394 1848 = some (1848, .ifCond .ne 15, 1851, 1863, 0, 0) := by decide +kernel
theorem s394_1848 {L : Nat} {xs : Nat → Int32} {d x : Nat} {M : qxM} {st : List Value} {ls : qxL} {z : Int32} : Rs L xs (d) 394 1848 ls (.int z :: st) M x = if z = 0 then Rs L xs (d) 394 1851 ls st M x else Rs L xs (d) 394 1863 ls st M x := Rs_ite c394_1848 rfl
theorem c394_1851 : qx_code 394 1851 = some (1851, .aload_n 3, 1852, 0, 0, 0) := by decide +kernel
theorem s394_1851 {L : Nat} {xs : Nat → Int32} {d x : Nat} {M : qxM} {st : List Value} {a0 a1 a2 a4 a5 a6 a7 a8 : Option Value} {z : Nat} : Rs L xs (d) 394 1851 [a0, a1, a2, some (.ref z), a4, a5, a6, a7, a8] st M x = Rs L xs (d) 394 1852 [a0, a1, a2, some (.ref z), a4, a5, a6, a7, a8] (.ref z :: st) M x := Rs_next c394_1851 rfl
theorem c394_1852 : qx_code 394 1852 = some (1852, .iconst 0, 1853, 0, 0, 0) := by decide +kernel
theorem s394_1852 {L : Nat} {xs : Nat → Int32} {d x : Nat} {M : qxM} {st : List Value} {ls : qxL} : Rs L xs (d) 394 1852 ls st M x = Rs L xs (d) 394 1853 ls (.int (nI 0) :: st) M x := Rs_next c394_1852 rfl
theorem c394_1853 : qx_code 394 1853 = some (1853, .laload, 1854, 0, 0, 0) := by decide +kernel
theorem s394_1853 {L : Nat} {xs : Nat → Int32} {d x : Nat} {M : qxM} {st : List Value} {ls : qxL} {t : Nat} {j : Int32} (hk : qx_kd t = 4) (hj : qx_ib j (qx_ln t) = true) : Rs L xs (d) 394 1853 ls (.int j :: .ref t :: st) M x = Rs L xs (d) 394 1854 ls (.long (M.2.1 j.toNatClampNeg) :: st) M x := by
  have h1 := qx_kd_row (k := 4) (by decide) hk
  exact Rs_unless (qx_ib_not hj) c394_1853 (by unfold qx_act; dsimp only; rw [h1]; rfl)
theorem c394_1854 : qx_code 394 1854 = some (1854, .iload 7, 1856, 0, 0, 0) := by decide +kernel
theorem s394_1854 {L : Nat} {xs : Nat → Int32} {d x : Nat} {M : qxM} {st : List Value} {a0 a1 a2 a3 a4 a5 a6 a8 : Option Value} {z : Int32} : Rs L xs (d) 394 1854 [a0, a1, a2, a3, a4, a5, a6, some (.int z), a8] st M x = Rs L xs (d) 394 1856 [a0, a1, a2, a3, a4, a5, a6, some (.int z), a8] (.int z :: st) M x := Rs_next c394_1854 rfl
theorem c394_1856 : qx_code 394 1856 = some (1856, .i2l, 1857, 0, 0, 0) := by decide +kernel
theorem s394_1856 {L : Nat} {xs : Nat → Int32} {d x : Nat} {M : qxM} {st : List Value} {ls : qxL} {z : Int32} : Rs L xs (d) 394 1856 ls (.int z :: st) M x = Rs L xs (d) 394 1857 ls (.long z.toInt64 :: st) M x := Rs_next c394_1856 rfl
theorem c394_1857 : qx_code 394 1857 = some (1857, .lcmp, 1858, 0, 0, 0) := by decide +kernel
theorem s394_1857 {L : Nat} {xs : Nat → Int32} {d x : Nat} {M : qxM} {st : List Value} {ls : qxL} {z y : Int64} : Rs L xs (d) 394 1857 ls (.long y :: .long z :: st) M x = Rs L xs (d) 394 1858 ls (.int (lg_cmp z y) :: st) M x := Rs_next c394_1857 rfl
theorem c394_1858 : qx_code 394 1858 = some (1858, .ifCond .eq 5, 1861, 1863, 0, 0) := by decide +kernel
theorem s394_1858 {L : Nat} {xs : Nat → Int32} {d x : Nat} {M : qxM} {st : List Value} {ls : qxL} {z : Int32} : Rs L xs (d) 394 1858 ls (.int z :: st) M x = if z = 0 then Rs L xs (d) 394 1863 ls st M x else Rs L xs (d) 394 1861 ls st M x := Rs_ite c394_1858 rfl
theorem c394_1863 : qx_code 394 1863 = some (1863, .goto 1883, 1866, 3746, 0, 0) := by decide +kernel
theorem s394_1863 {L : Nat} {xs : Nat → Int32} {d x : Nat} {M : qxM} {st : List Value} {ls : qxL} : Rs L xs (d) 394 1863 ls st M x = Rs L xs (d) 394 3746 ls st M x := Rs_next c394_1863 rfl
theorem c394_1866 : qx_code 394 1866 = some (1866, .aload_n 1, 1867, 0, 0, 0) := by decide +kernel
theorem s394_1866 {L : Nat} {xs : Nat → Int32} {d x : Nat} {M : qxM} {st : List Value} {a0 a2 a3 a4 a5 a6 a7 a8 : Option Value} {z : Nat} : Rs L xs (d) 394 1866 [a0, some (.ref z), a2, a3, a4, a5, a6, a7, a8] st M x = Rs L xs (d) 394 1867 [a0, some (.ref z), a2, a3, a4, a5, a6, a7, a8] (.ref z :: st) M x := Rs_next c394_1866 rfl
theorem c394_1867 : qx_code 394 1867 = some (1867, .aload_n 0, 1868, 0, 0, 0) := by decide +kernel
theorem s394_1867 {L : Nat} {xs : Nat → Int32} {d x : Nat} {M : qxM} {st : List Value} {a1 a2 a3 a4 a5 a6 a7 a8 : Option Value} {z : Nat} : Rs L xs (d) 394 1867 [some (.ref z), a1, a2, a3, a4, a5, a6, a7, a8] st M x = Rs L xs (d) 394 1868 [some (.ref z), a1, a2, a3, a4, a5, a6, a7, a8] (.ref z :: st) M x := Rs_next c394_1867 rfl
theorem c394_1868 : qx_code 394 1868 = some (1868, .iload 5, 1870, 0, 0, 0) := by decide +kernel
theorem s394_1868 {L : Nat} {xs : Nat → Int32} {d x : Nat} {M : qxM} {st : List Value} {a0 a1 a2 a3 a4 a6 a7 a8 : Option Value} {z : Int32} : Rs L xs (d) 394 1868 [a0, a1, a2, a3, a4, some (.int z), a6, a7, a8] st M x = Rs L xs (d) 394 1870 [a0, a1, a2, a3, a4, some (.int z), a6, a7, a8] (.int z :: st) M x := Rs_next c394_1868 rfl
theorem c394_1870 : qx_code 394 1870 = some (1870, .iconst 1, 1871, 0, 0, 0) := by decide +kernel
theorem s394_1870 {L : Nat} {xs : Nat → Int32} {d x : Nat} {M : qxM} {st : List Value} {ls : qxL} : Rs L xs (d) 394 1870 ls st M x = Rs L xs (d) 394 1871 ls (.int (nI 1) :: st) M x := Rs_next c394_1870 rfl
theorem c394_1871 : qx_code 394 1871 = some (1871, .iadd, 1872, 0, 0, 0) := by decide +kernel
theorem s394_1871 {L : Nat} {xs : Nat → Int32} {d x : Nat} {M : qxM} {st : List Value} {ls : qxL} {z y : Int32} : Rs L xs (d) 394 1871 ls (.int y :: .int z :: st) M x = Rs L xs (d) 394 1872 ls (.int (z + y) :: st) M x := Rs_next c394_1871 rfl
theorem c394_1872 : qx_code 394 1872 = some (1872, .iaload, 1873, 0, 0, 0) := by decide +kernel
theorem s394_1872s {L : Nat} {xs : Nat → Int32} {d x : Nat} {M : qxM} {st : List Value} {ls : qxL} {j : Int32} (hj : qx_ib j L = true) : Rs L xs (d) 394 1872 ls (.int j :: .ref 1 :: st) M x = Rs L xs (d) 394 1873 ls (.int (xs j.toNatClampNeg) :: st) M x := Rs_unless (qx_ib_not hj) c394_1872 rfl
theorem c394_1873 : qx_code 394 1873 = some (1873, .aload_n 3, 1874, 0, 0, 0) := by decide +kernel
theorem s394_1873 {L : Nat} {xs : Nat → Int32} {d x : Nat} {M : qxM} {st : List Value} {a0 a1 a2 a4 a5 a6 a7 a8 : Option Value} {z : Nat} : Rs L xs (d) 394 1873 [a0, a1, a2, some (.ref z), a4, a5, a6, a7, a8] st M x = Rs L xs (d) 394 1874 [a0, a1, a2, some (.ref z), a4, a5, a6, a7, a8] (.ref z :: st) M x := Rs_next c394_1873 rfl
theorem c394_1874 : qx_code 394 1874 = some (1874, .invokestatic 311, 1877, 361, 3, 1103) := by decide +kernel
theorem s394_1874 {L : Nat} {xs : Nat → Int32} {d x : Nat} {M : qxM} {st : List Value} {ls : qxL} {z0 : Nat} {z1 : Int32} {z2 : Nat} (hs : st.length ≤ 4) : Rs L xs (d + 1) 394 1874 ls (.ref z2 :: .int z1 :: .ref z0 :: st) M x = (Rs L xs d 361 0 [some (.ref z0), some (.int z1), some (.ref z2), none] [] M 0).bind (qx_kn L xs (d + 1) 394 1874 1877 361 ls st x) := by
  have h1 : qx_act L xs (qx_rt 394) (1874, .invokestatic 311, 1877, 361, 3, 1103) ls (.ref z2 :: .int z1 :: .ref z0 :: st) M = if 3 ≤ (.ref z2 :: .int z1 :: .ref z0 :: st).length ∧ st.length ≤ 4 then some (.inr (.inr (.inr (361, [.ref z0, .int z1, .ref z2], st)))) else none := rfl
  rw [if_pos ⟨by simp [List.length_cons]; try omega, hs⟩] at h1
  exact Rs_call c394_1874 h1 rfl
theorem c394_1877 : qx_code 394 1877 = some (1877, .istore 6, 1879, 0, 0, 0) := by decide +kernel
theorem s394_1877i {L : Nat} {xs : Nat → Int32} {d x : Nat} {M : qxM} {st : List Value} {a0 a1 a2 a3 a4 a6 a7 a8 : Option Value} {z : Int32} {y : Int32} : Rs L xs (d) 394 1877 [a0, a1, a2, a3, a4, some (.int y), a6, a7, a8] (.int z :: st) M x = Rs L xs (d) 394 1879 [a0, a1, a2, a3, a4, some (.int y), some (.int z), a7, a8] st M x := Rs_next c394_1877 rfl
theorem c394_1879 : qx_code 394 1879 = some (1879, .aload_n 2, 1880, 0, 0, 0) := by decide +kernel
theorem s394_1879 {L : Nat} {xs : Nat → Int32} {d x : Nat} {M : qxM} {st : List Value} {a0 a1 a3 a4 a5 a6 a7 a8 : Option Value} {z : Nat} : Rs L xs (d) 394 1879 [a0, a1, some (.ref z), a3, a4, a5, a6, a7, a8] st M x = Rs L xs (d) 394 1880 [a0, a1, some (.ref z), a3, a4, a5, a6, a7, a8] (.ref z :: st) M x := Rs_next c394_1879 rfl
theorem c394_1880 : qx_code 394 1880 = some (1880, .aload_n 0, 1881, 0, 0, 0) := by decide +kernel
theorem s394_1880 {L : Nat} {xs : Nat → Int32} {d x : Nat} {M : qxM} {st : List Value} {a1 a2 a3 a4 a5 a6 a7 a8 : Option Value} {z : Nat} : Rs L xs (d) 394 1880 [some (.ref z), a1, a2, a3, a4, a5, a6, a7, a8] st M x = Rs L xs (d) 394 1881 [some (.ref z), a1, a2, a3, a4, a5, a6, a7, a8] (.ref z :: st) M x := Rs_next c394_1880 rfl
theorem c394_1881 : qx_code 394 1881 = some (1881, .iload 5, 1883, 0, 0, 0) := by decide +kernel
theorem s394_1881 {L : Nat} {xs : Nat → Int32} {d x : Nat} {M : qxM} {st : List Value} {a0 a1 a2 a3 a4 a6 a7 a8 : Option Value} {z : Int32} : Rs L xs (d) 394 1881 [a0, a1, a2, a3, a4, some (.int z), a6, a7, a8] st M x = Rs L xs (d) 394 1883 [a0, a1, a2, a3, a4, some (.int z), a6, a7, a8] (.int z :: st) M x := Rs_next c394_1881 rfl
theorem c394_1883 : qx_code 394 1883 = some (1883, .iconst 1, 1884, 0, 0, 0) := by decide +kernel
theorem s394_1883 {L : Nat} {xs : Nat → Int32} {d x : Nat} {M : qxM} {st : List Value} {ls : qxL} : Rs L xs (d) 394 1883 ls st M x = Rs L xs (d) 394 1884 ls (.int (nI 1) :: st) M x := Rs_next c394_1883 rfl
theorem c394_1884 : qx_code 394 1884 = some (1884, .iadd, 1885, 0, 0, 0) := by decide +kernel
theorem s394_1884 {L : Nat} {xs : Nat → Int32} {d x : Nat} {M : qxM} {st : List Value} {ls : qxL} {z y : Int32} : Rs L xs (d) 394 1884 ls (.int y :: .int z :: st) M x = Rs L xs (d) 394 1885 ls (.int (z + y) :: st) M x := Rs_next c394_1884 rfl
theorem c394_1885 : qx_code 394 1885 = some (1885, .iaload, 1886, 0, 0, 0) := by decide +kernel
theorem s394_1885s {L : Nat} {xs : Nat → Int32} {d x : Nat} {M : qxM} {st : List Value} {ls : qxL} {j : Int32} (hj : qx_ib j L = true) : Rs L xs (d) 394 1885 ls (.int j :: .ref 1 :: st) M x = Rs L xs (d) 394 1886 ls (.int (xs j.toNatClampNeg) :: st) M x := Rs_unless (qx_ib_not hj) c394_1885 rfl
theorem c394_1886 : qx_code 394 1886 = some (1886, .invokevirtual 313, 1889, 290, 2, 1990) := by decide +kernel
theorem s394_1886 {L : Nat} {xs : Nat → Int32} {d x : Nat} {M : qxM} {st : List Value} {ls : qxL} {t : Nat} {z0 : Int32} (hk : qx_kd t = 18) (hs : st.length ≤ 4) : Rs L xs (d + 1) 394 1886 ls (.int z0 :: .ref t :: st) M x = (Rs L xs d 290 0 [some (.ref t), some (.int z0), none] [] M 0).bind (qx_kn L xs (d + 1) 394 1886 1889 290 ls st x) := by
  have h1 : qx_act L xs (qx_rt 394) (1886, .invokevirtual 313, 1889, 290, 2, 1990) ls (.int z0 :: .ref t :: st) M = if 2 ≤ (.int z0 :: .ref t :: st).length ∧ st.length ≤ 4 then some (.inr (.inr (.inr (290, [.ref t, .int z0], st)))) else none := rfl
  rw [if_pos ⟨by simp [List.length_cons]; try omega, hs⟩] at h1
  have h2 := qx_kd_obj (k := 8) (by decide) hk
  exact Rs_call c394_1886 h1 (by rw [show qx_args 290 [.ref t, .int z0] = decide (qx_sh t = some (.inl 8)) from rfl]; exact decide_eq_true h2)
theorem c394_1889 : qx_code 394 1889 = some (1889, .istore 7, 1891, 0, 0, 0) := by decide +kernel
theorem s394_1889i {L : Nat} {xs : Nat → Int32} {d x : Nat} {M : qxM} {st : List Value} {a0 a1 a2 a3 a4 a5 a7 a8 : Option Value} {z : Int32} {y : Int32} : Rs L xs (d) 394 1889 [a0, a1, a2, a3, a4, a5, some (.int y), a7, a8] (.int z :: st) M x = Rs L xs (d) 394 1891 [a0, a1, a2, a3, a4, a5, some (.int y), some (.int z), a8] st M x := Rs_next c394_1889 rfl
theorem c394_1891 : qx_code 394 1891 = some (1891, .aload_n 2, 1892, 0, 0, 0) := by decide +kernel
theorem s394_1891 {L : Nat} {xs : Nat → Int32} {d x : Nat} {M : qxM} {st : List Value} {a0 a1 a3 a4 a5 a6 a7 a8 : Option Value} {z : Nat} : Rs L xs (d) 394 1891 [a0, a1, some (.ref z), a3, a4, a5, a6, a7, a8] st M x = Rs L xs (d) 394 1892 [a0, a1, some (.ref z), a3, a4, a5, a6, a7, a8] (.ref z :: st) M x := Rs_next c394_1891 rfl
theorem c394_1892 : qx_code 394 1892 = some (1892, .invokevirtual 218, 1895, 177, 1, 1613) := by decide +kernel
theorem s394_1892 {L : Nat} {xs : Nat → Int32} {d x : Nat} {M : qxM} {st : List Value} {ls : qxL} {t : Nat} (hk : qx_kd t = 18) (hs : st.length ≤ 4) : Rs L xs (d + 1) 394 1892 ls (.ref t :: st) M x = (Rs L xs d 177 0 [some (.ref t)] [] M 0).bind (qx_kn L xs (d + 1) 394 1892 1895 177 ls st x) := by
  have h1 : qx_act L xs (qx_rt 394) (1892, .invokevirtual 218, 1895, 177, 1, 1613) ls (.ref t :: st) M = if 1 ≤ (.ref t :: st).length ∧ st.length ≤ 4 then some (.inr (.inr (.inr (177, [.ref t], st)))) else none := rfl
  rw [if_pos ⟨by simp [List.length_cons]; try omega, hs⟩] at h1
  have h2 := qx_kd_obj (k := 8) (by decide) hk
  exact Rs_call c394_1892 h1 (by rw [show qx_args 177 [.ref t] = decide (qx_sh t = some (.inl 8)) from rfl]; exact decide_eq_true h2)
theorem c394_1895 : qx_code 394 1895 = some (1895, .iload 6, 1897, 0, 0, 0) := by decide +kernel
theorem s394_1895 {L : Nat} {xs : Nat → Int32} {d x : Nat} {M : qxM} {st : List Value} {a0 a1 a2 a3 a4 a5 a7 a8 : Option Value} {z : Int32} : Rs L xs (d) 394 1895 [a0, a1, a2, a3, a4, a5, some (.int z), a7, a8] st M x = Rs L xs (d) 394 1897 [a0, a1, a2, a3, a4, a5, some (.int z), a7, a8] (.int z :: st) M x := Rs_next c394_1895 rfl
theorem c394_1897 : qx_code 394 1897 = some (1897, .if_icmp .eq 5, 1900, 1902, 0, 0) := by decide +kernel
theorem s394_1897 {L : Nat} {xs : Nat → Int32} {d x : Nat} {M : qxM} {st : List Value} {ls : qxL} {z y : Int32} : Rs L xs (d) 394 1897 ls (.int y :: .int z :: st) M x = if z = y then Rs L xs (d) 394 1902 ls st M x else Rs L xs (d) 394 1900 ls st M x := Rs_ite c394_1897 rfl
theorem c394_1902 : qx_code 394 1902 = some (1902, .iload 6, 1904, 0, 0, 0) := by decide +kernel
theorem s394_1902 {L : Nat} {xs : Nat → Int32} {d x : Nat} {M : qxM} {st : List Value} {a0 a1 a2 a3 a4 a5 a7 a8 : Option Value} {z : Int32} : Rs L xs (d) 394 1902 [a0, a1, a2, a3, a4, a5, some (.int z), a7, a8] st M x = Rs L xs (d) 394 1904 [a0, a1, a2, a3, a4, a5, some (.int z), a7, a8] (.int z :: st) M x := Rs_next c394_1902 rfl
theorem c394_1904 : qx_code 394 1904 = some (1904, .ifCond .ne 15, 1907, 1919, 0, 0) := by decide +kernel
theorem s394_1904 {L : Nat} {xs : Nat → Int32} {d x : Nat} {M : qxM} {st : List Value} {ls : qxL} {z : Int32} : Rs L xs (d) 394 1904 ls (.int z :: st) M x = if z = 0 then Rs L xs (d) 394 1907 ls st M x else Rs L xs (d) 394 1919 ls st M x := Rs_ite c394_1904 rfl
theorem c394_1907 : qx_code 394 1907 = some (1907, .aload_n 3, 1908, 0, 0, 0) := by decide +kernel
theorem s394_1907 {L : Nat} {xs : Nat → Int32} {d x : Nat} {M : qxM} {st : List Value} {a0 a1 a2 a4 a5 a6 a7 a8 : Option Value} {z : Nat} : Rs L xs (d) 394 1907 [a0, a1, a2, some (.ref z), a4, a5, a6, a7, a8] st M x = Rs L xs (d) 394 1908 [a0, a1, a2, some (.ref z), a4, a5, a6, a7, a8] (.ref z :: st) M x := Rs_next c394_1907 rfl
theorem c394_1908 : qx_code 394 1908 = some (1908, .iconst 0, 1909, 0, 0, 0) := by decide +kernel
theorem s394_1908 {L : Nat} {xs : Nat → Int32} {d x : Nat} {M : qxM} {st : List Value} {ls : qxL} : Rs L xs (d) 394 1908 ls st M x = Rs L xs (d) 394 1909 ls (.int (nI 0) :: st) M x := Rs_next c394_1908 rfl
theorem c394_1909 : qx_code 394 1909 = some (1909, .laload, 1910, 0, 0, 0) := by decide +kernel
theorem s394_1909 {L : Nat} {xs : Nat → Int32} {d x : Nat} {M : qxM} {st : List Value} {ls : qxL} {t : Nat} {j : Int32} (hk : qx_kd t = 4) (hj : qx_ib j (qx_ln t) = true) : Rs L xs (d) 394 1909 ls (.int j :: .ref t :: st) M x = Rs L xs (d) 394 1910 ls (.long (M.2.1 j.toNatClampNeg) :: st) M x := by
  have h1 := qx_kd_row (k := 4) (by decide) hk
  exact Rs_unless (qx_ib_not hj) c394_1909 (by unfold qx_act; dsimp only; rw [h1]; rfl)
theorem c394_1910 : qx_code 394 1910 = some (1910, .iload 7, 1912, 0, 0, 0) := by decide +kernel
theorem s394_1910 {L : Nat} {xs : Nat → Int32} {d x : Nat} {M : qxM} {st : List Value} {a0 a1 a2 a3 a4 a5 a6 a8 : Option Value} {z : Int32} : Rs L xs (d) 394 1910 [a0, a1, a2, a3, a4, a5, a6, some (.int z), a8] st M x = Rs L xs (d) 394 1912 [a0, a1, a2, a3, a4, a5, a6, some (.int z), a8] (.int z :: st) M x := Rs_next c394_1910 rfl
theorem c394_1912 : qx_code 394 1912 = some (1912, .i2l, 1913, 0, 0, 0) := by decide +kernel
theorem s394_1912 {L : Nat} {xs : Nat → Int32} {d x : Nat} {M : qxM} {st : List Value} {ls : qxL} {z : Int32} : Rs L xs (d) 394 1912 ls (.int z :: st) M x = Rs L xs (d) 394 1913 ls (.long z.toInt64 :: st) M x := Rs_next c394_1912 rfl
theorem c394_1913 : qx_code 394 1913 = some (1913, .lcmp, 1914, 0, 0, 0) := by decide +kernel
theorem s394_1913 {L : Nat} {xs : Nat → Int32} {d x : Nat} {M : qxM} {st : List Value} {ls : qxL} {z y : Int64} : Rs L xs (d) 394 1913 ls (.long y :: .long z :: st) M x = Rs L xs (d) 394 1914 ls (.int (lg_cmp z y) :: st) M x := Rs_next c394_1913 rfl
theorem c394_1914 : qx_code 394 1914 = some (1914, .ifCond .eq 5, 1917, 1919, 0, 0) := by decide +kernel
theorem s394_1914 {L : Nat} {xs : Nat → Int32} {d x : Nat} {M : qxM} {st : List Value} {ls : qxL} {z : Int32} : Rs L xs (d) 394 1914 ls (.int z :: st) M x = if z = 0 then Rs L xs (d) 394 1919 ls st M x else Rs L xs (d) 394 1917 ls st M x := Rs_ite c394_1914 rfl
theorem c394_1919 : qx_code 394 1919 = some (1919, .goto 1827, 1922, 3746, 0, 0) := by decide +kernel
theorem s394_1919 {L : Nat} {xs : Nat → Int32} {d x : Nat} {M : qxM} {st : List Value} {ls : qxL} : Rs L xs (d) 394 1919 ls st M x = Rs L xs (d) 394 3746 ls st M x := Rs_next c394_1919 rfl
theorem c394_1922 : qx_code 394 1922 = some (1922, .aload_n 1, 1923, 0, 0, 0) := by decide +kernel
theorem s394_1922 {L : Nat} {xs : Nat → Int32} {d x : Nat} {M : qxM} {st : List Value} {a0 a2 a3 a4 a5 a6 a7 a8 : Option Value} {z : Nat} : Rs L xs (d) 394 1922 [a0, some (.ref z), a2, a3, a4, a5, a6, a7, a8] st M x = Rs L xs (d) 394 1923 [a0, some (.ref z), a2, a3, a4, a5, a6, a7, a8] (.ref z :: st) M x := Rs_next c394_1922 rfl
theorem c394_1923 : qx_code 394 1923 = some (1923, .aload_n 0, 1924, 0, 0, 0) := by decide +kernel
theorem s394_1923 {L : Nat} {xs : Nat → Int32} {d x : Nat} {M : qxM} {st : List Value} {a1 a2 a3 a4 a5 a6 a7 a8 : Option Value} {z : Nat} : Rs L xs (d) 394 1923 [some (.ref z), a1, a2, a3, a4, a5, a6, a7, a8] st M x = Rs L xs (d) 394 1924 [some (.ref z), a1, a2, a3, a4, a5, a6, a7, a8] (.ref z :: st) M x := Rs_next c394_1923 rfl
theorem c394_1924 : qx_code 394 1924 = some (1924, .iload 5, 1926, 0, 0, 0) := by decide +kernel
theorem s394_1924 {L : Nat} {xs : Nat → Int32} {d x : Nat} {M : qxM} {st : List Value} {a0 a1 a2 a3 a4 a6 a7 a8 : Option Value} {z : Int32} : Rs L xs (d) 394 1924 [a0, a1, a2, a3, a4, some (.int z), a6, a7, a8] st M x = Rs L xs (d) 394 1926 [a0, a1, a2, a3, a4, some (.int z), a6, a7, a8] (.int z :: st) M x := Rs_next c394_1924 rfl
theorem c394_1926 : qx_code 394 1926 = some (1926, .iconst 1, 1927, 0, 0, 0) := by decide +kernel
theorem s394_1926 {L : Nat} {xs : Nat → Int32} {d x : Nat} {M : qxM} {st : List Value} {ls : qxL} : Rs L xs (d) 394 1926 ls st M x = Rs L xs (d) 394 1927 ls (.int (nI 1) :: st) M x := Rs_next c394_1926 rfl
theorem c394_1927 : qx_code 394 1927 = some (1927, .iadd, 1928, 0, 0, 0) := by decide +kernel
theorem s394_1927 {L : Nat} {xs : Nat → Int32} {d x : Nat} {M : qxM} {st : List Value} {ls : qxL} {z y : Int32} : Rs L xs (d) 394 1927 ls (.int y :: .int z :: st) M x = Rs L xs (d) 394 1928 ls (.int (z + y) :: st) M x := Rs_next c394_1927 rfl
theorem c394_1928 : qx_code 394 1928 = some (1928, .iaload, 1929, 0, 0, 0) := by decide +kernel
theorem s394_1928s {L : Nat} {xs : Nat → Int32} {d x : Nat} {M : qxM} {st : List Value} {ls : qxL} {j : Int32} (hj : qx_ib j L = true) : Rs L xs (d) 394 1928 ls (.int j :: .ref 1 :: st) M x = Rs L xs (d) 394 1929 ls (.int (xs j.toNatClampNeg) :: st) M x := Rs_unless (qx_ib_not hj) c394_1928 rfl
theorem c394_1929 : qx_code 394 1929 = some (1929, .aload_n 3, 1930, 0, 0, 0) := by decide +kernel
theorem s394_1929 {L : Nat} {xs : Nat → Int32} {d x : Nat} {M : qxM} {st : List Value} {a0 a1 a2 a4 a5 a6 a7 a8 : Option Value} {z : Nat} : Rs L xs (d) 394 1929 [a0, a1, a2, some (.ref z), a4, a5, a6, a7, a8] st M x = Rs L xs (d) 394 1930 [a0, a1, a2, some (.ref z), a4, a5, a6, a7, a8] (.ref z :: st) M x := Rs_next c394_1929 rfl
theorem c394_1930 : qx_code 394 1930 = some (1930, .invokestatic 314, 1933, 362, 3, 1120) := by decide +kernel
theorem s394_1930 {L : Nat} {xs : Nat → Int32} {d x : Nat} {M : qxM} {st : List Value} {ls : qxL} {z0 : Nat} {z1 : Int32} {z2 : Nat} (hs : st.length ≤ 4) : Rs L xs (d + 1) 394 1930 ls (.ref z2 :: .int z1 :: .ref z0 :: st) M x = (Rs L xs d 362 0 [some (.ref z0), some (.int z1), some (.ref z2), none] [] M 0).bind (qx_kn L xs (d + 1) 394 1930 1933 362 ls st x) := by
  have h1 : qx_act L xs (qx_rt 394) (1930, .invokestatic 314, 1933, 362, 3, 1120) ls (.ref z2 :: .int z1 :: .ref z0 :: st) M = if 3 ≤ (.ref z2 :: .int z1 :: .ref z0 :: st).length ∧ st.length ≤ 4 then some (.inr (.inr (.inr (362, [.ref z0, .int z1, .ref z2], st)))) else none := rfl
  rw [if_pos ⟨by simp [List.length_cons]; try omega, hs⟩] at h1
  exact Rs_call c394_1930 h1 rfl
theorem c394_1933 : qx_code 394 1933 = some (1933, .istore 6, 1935, 0, 0, 0) := by decide +kernel
theorem s394_1933i {L : Nat} {xs : Nat → Int32} {d x : Nat} {M : qxM} {st : List Value} {a0 a1 a2 a3 a4 a6 a7 a8 : Option Value} {z : Int32} {y : Int32} : Rs L xs (d) 394 1933 [a0, a1, a2, a3, a4, some (.int y), a6, a7, a8] (.int z :: st) M x = Rs L xs (d) 394 1935 [a0, a1, a2, a3, a4, some (.int y), some (.int z), a7, a8] st M x := Rs_next c394_1933 rfl
theorem c394_1935 : qx_code 394 1935 = some (1935, .aload_n 2, 1936, 0, 0, 0) := by decide +kernel
theorem s394_1935 {L : Nat} {xs : Nat → Int32} {d x : Nat} {M : qxM} {st : List Value} {a0 a1 a3 a4 a5 a6 a7 a8 : Option Value} {z : Nat} : Rs L xs (d) 394 1935 [a0, a1, some (.ref z), a3, a4, a5, a6, a7, a8] st M x = Rs L xs (d) 394 1936 [a0, a1, some (.ref z), a3, a4, a5, a6, a7, a8] (.ref z :: st) M x := Rs_next c394_1935 rfl
theorem c394_1936 : qx_code 394 1936 = some (1936, .aload_n 0, 1937, 0, 0, 0) := by decide +kernel
theorem s394_1936 {L : Nat} {xs : Nat → Int32} {d x : Nat} {M : qxM} {st : List Value} {a1 a2 a3 a4 a5 a6 a7 a8 : Option Value} {z : Nat} : Rs L xs (d) 394 1936 [some (.ref z), a1, a2, a3, a4, a5, a6, a7, a8] st M x = Rs L xs (d) 394 1937 [some (.ref z), a1, a2, a3, a4, a5, a6, a7, a8] (.ref z :: st) M x := Rs_next c394_1936 rfl
theorem c394_1937 : qx_code 394 1937 = some (1937, .iload 5, 1939, 0, 0, 0) := by decide +kernel
theorem s394_1937 {L : Nat} {xs : Nat → Int32} {d x : Nat} {M : qxM} {st : List Value} {a0 a1 a2 a3 a4 a6 a7 a8 : Option Value} {z : Int32} : Rs L xs (d) 394 1937 [a0, a1, a2, a3, a4, some (.int z), a6, a7, a8] st M x = Rs L xs (d) 394 1939 [a0, a1, a2, a3, a4, some (.int z), a6, a7, a8] (.int z :: st) M x := Rs_next c394_1937 rfl
theorem c394_1939 : qx_code 394 1939 = some (1939, .iconst 1, 1940, 0, 0, 0) := by decide +kernel
theorem s394_1939 {L : Nat} {xs : Nat → Int32} {d x : Nat} {M : qxM} {st : List Value} {ls : qxL} : Rs L xs (d) 394 1939 ls st M x = Rs L xs (d) 394 1940 ls (.int (nI 1) :: st) M x := Rs_next c394_1939 rfl
theorem c394_1940 : qx_code 394 1940 = some (1940, .iadd, 1941, 0, 0, 0) := by decide +kernel
theorem s394_1940 {L : Nat} {xs : Nat → Int32} {d x : Nat} {M : qxM} {st : List Value} {ls : qxL} {z y : Int32} : Rs L xs (d) 394 1940 ls (.int y :: .int z :: st) M x = Rs L xs (d) 394 1941 ls (.int (z + y) :: st) M x := Rs_next c394_1940 rfl
theorem c394_1941 : qx_code 394 1941 = some (1941, .iaload, 1942, 0, 0, 0) := by decide +kernel
theorem s394_1941s {L : Nat} {xs : Nat → Int32} {d x : Nat} {M : qxM} {st : List Value} {ls : qxL} {j : Int32} (hj : qx_ib j L = true) : Rs L xs (d) 394 1941 ls (.int j :: .ref 1 :: st) M x = Rs L xs (d) 394 1942 ls (.int (xs j.toNatClampNeg) :: st) M x := Rs_unless (qx_ib_not hj) c394_1941 rfl
theorem c394_1942 : qx_code 394 1942 = some (1942, .invokevirtual 316, 1945, 291, 2, 2002) := by decide +kernel
theorem s394_1942 {L : Nat} {xs : Nat → Int32} {d x : Nat} {M : qxM} {st : List Value} {ls : qxL} {t : Nat} {z0 : Int32} (hk : qx_kd t = 18) (hs : st.length ≤ 4) : Rs L xs (d + 1) 394 1942 ls (.int z0 :: .ref t :: st) M x = (Rs L xs d 291 0 [some (.ref t), some (.int z0), none] [] M 0).bind (qx_kn L xs (d + 1) 394 1942 1945 291 ls st x) := by
  have h1 : qx_act L xs (qx_rt 394) (1942, .invokevirtual 316, 1945, 291, 2, 2002) ls (.int z0 :: .ref t :: st) M = if 2 ≤ (.int z0 :: .ref t :: st).length ∧ st.length ≤ 4 then some (.inr (.inr (.inr (291, [.ref t, .int z0], st)))) else none := rfl
  rw [if_pos ⟨by simp [List.length_cons]; try omega, hs⟩] at h1
  have h2 := qx_kd_obj (k := 8) (by decide) hk
  exact Rs_call c394_1942 h1 (by rw [show qx_args 291 [.ref t, .int z0] = decide (qx_sh t = some (.inl 8)) from rfl]; exact decide_eq_true h2)
theorem c394_1945 : qx_code 394 1945 = some (1945, .istore 7, 1947, 0, 0, 0) := by decide +kernel
theorem s394_1945i {L : Nat} {xs : Nat → Int32} {d x : Nat} {M : qxM} {st : List Value} {a0 a1 a2 a3 a4 a5 a7 a8 : Option Value} {z : Int32} {y : Int32} : Rs L xs (d) 394 1945 [a0, a1, a2, a3, a4, a5, some (.int y), a7, a8] (.int z :: st) M x = Rs L xs (d) 394 1947 [a0, a1, a2, a3, a4, a5, some (.int y), some (.int z), a8] st M x := Rs_next c394_1945 rfl
theorem c394_1947 : qx_code 394 1947 = some (1947, .aload_n 2, 1948, 0, 0, 0) := by decide +kernel
theorem s394_1947 {L : Nat} {xs : Nat → Int32} {d x : Nat} {M : qxM} {st : List Value} {a0 a1 a3 a4 a5 a6 a7 a8 : Option Value} {z : Nat} : Rs L xs (d) 394 1947 [a0, a1, some (.ref z), a3, a4, a5, a6, a7, a8] st M x = Rs L xs (d) 394 1948 [a0, a1, some (.ref z), a3, a4, a5, a6, a7, a8] (.ref z :: st) M x := Rs_next c394_1947 rfl
theorem c394_1948 : qx_code 394 1948 = some (1948, .invokevirtual 218, 1951, 177, 1, 1613) := by decide +kernel
theorem s394_1948 {L : Nat} {xs : Nat → Int32} {d x : Nat} {M : qxM} {st : List Value} {ls : qxL} {t : Nat} (hk : qx_kd t = 18) (hs : st.length ≤ 4) : Rs L xs (d + 1) 394 1948 ls (.ref t :: st) M x = (Rs L xs d 177 0 [some (.ref t)] [] M 0).bind (qx_kn L xs (d + 1) 394 1948 1951 177 ls st x) := by
  have h1 : qx_act L xs (qx_rt 394) (1948, .invokevirtual 218, 1951, 177, 1, 1613) ls (.ref t :: st) M = if 1 ≤ (.ref t :: st).length ∧ st.length ≤ 4 then some (.inr (.inr (.inr (177, [.ref t], st)))) else none := rfl
  rw [if_pos ⟨by simp [List.length_cons]; try omega, hs⟩] at h1
  have h2 := qx_kd_obj (k := 8) (by decide) hk
  exact Rs_call c394_1948 h1 (by rw [show qx_args 177 [.ref t] = decide (qx_sh t = some (.inl 8)) from rfl]; exact decide_eq_true h2)
theorem c394_1951 : qx_code 394 1951 = some (1951, .iload 6, 1953, 0, 0, 0) := by decide +kernel
theorem s394_1951 {L : Nat} {xs : Nat → Int32} {d x : Nat} {M : qxM} {st : List Value} {a0 a1 a2 a3 a4 a5 a7 a8 : Option Value} {z : Int32} : Rs L xs (d) 394 1951 [a0, a1, a2, a3, a4, a5, some (.int z), a7, a8] st M x = Rs L xs (d) 394 1953 [a0, a1, a2, a3, a4, a5, some (.int z), a7, a8] (.int z :: st) M x := Rs_next c394_1951 rfl
theorem c394_1953 : qx_code 394 1953 = some (1953, .if_icmp .eq 5, 1956, 1958, 0, 0) := by decide +kernel
theorem s394_1953 {L : Nat} {xs : Nat → Int32} {d x : Nat} {M : qxM} {st : List Value} {ls : qxL} {z y : Int32} : Rs L xs (d) 394 1953 ls (.int y :: .int z :: st) M x = if z = y then Rs L xs (d) 394 1958 ls st M x else Rs L xs (d) 394 1956 ls st M x := Rs_ite c394_1953 rfl
theorem c394_1958 : qx_code 394 1958 = some (1958, .iload 6, 1960, 0, 0, 0) := by decide +kernel
theorem s394_1958 {L : Nat} {xs : Nat → Int32} {d x : Nat} {M : qxM} {st : List Value} {a0 a1 a2 a3 a4 a5 a7 a8 : Option Value} {z : Int32} : Rs L xs (d) 394 1958 [a0, a1, a2, a3, a4, a5, some (.int z), a7, a8] st M x = Rs L xs (d) 394 1960 [a0, a1, a2, a3, a4, a5, some (.int z), a7, a8] (.int z :: st) M x := Rs_next c394_1958 rfl
theorem c394_1960 : qx_code 394 1960 = some (1960, .ifCond .ne 22, 1963, 1982, 0, 0) := by decide +kernel
theorem s394_1960 {L : Nat} {xs : Nat → Int32} {d x : Nat} {M : qxM} {st : List Value} {ls : qxL} {z : Int32} : Rs L xs (d) 394 1960 ls (.int z :: st) M x = if z = 0 then Rs L xs (d) 394 1963 ls st M x else Rs L xs (d) 394 1982 ls st M x := Rs_ite c394_1960 rfl
theorem c394_1963 : qx_code 394 1963 = some (1963, .aload_n 3, 1964, 0, 0, 0) := by decide +kernel
theorem s394_1963 {L : Nat} {xs : Nat → Int32} {d x : Nat} {M : qxM} {st : List Value} {a0 a1 a2 a4 a5 a6 a7 a8 : Option Value} {z : Nat} : Rs L xs (d) 394 1963 [a0, a1, a2, some (.ref z), a4, a5, a6, a7, a8] st M x = Rs L xs (d) 394 1964 [a0, a1, a2, some (.ref z), a4, a5, a6, a7, a8] (.ref z :: st) M x := Rs_next c394_1963 rfl
theorem c394_1964 : qx_code 394 1964 = some (1964, .iconst 0, 1965, 0, 0, 0) := by decide +kernel
theorem s394_1964 {L : Nat} {xs : Nat → Int32} {d x : Nat} {M : qxM} {st : List Value} {ls : qxL} : Rs L xs (d) 394 1964 ls st M x = Rs L xs (d) 394 1965 ls (.int (nI 0) :: st) M x := Rs_next c394_1964 rfl
theorem c394_1965 : qx_code 394 1965 = some (1965, .laload, 1966, 0, 0, 0) := by decide +kernel
theorem s394_1965 {L : Nat} {xs : Nat → Int32} {d x : Nat} {M : qxM} {st : List Value} {ls : qxL} {t : Nat} {j : Int32} (hk : qx_kd t = 4) (hj : qx_ib j (qx_ln t) = true) : Rs L xs (d) 394 1965 ls (.int j :: .ref t :: st) M x = Rs L xs (d) 394 1966 ls (.long (M.2.1 j.toNatClampNeg) :: st) M x := by
  have h1 := qx_kd_row (k := 4) (by decide) hk
  exact Rs_unless (qx_ib_not hj) c394_1965 (by unfold qx_act; dsimp only; rw [h1]; rfl)
theorem c394_1966 : qx_code 394 1966 = some (1966, .iload 7, 1968, 0, 0, 0) := by decide +kernel
theorem s394_1966 {L : Nat} {xs : Nat → Int32} {d x : Nat} {M : qxM} {st : List Value} {a0 a1 a2 a3 a4 a5 a6 a8 : Option Value} {z : Int32} : Rs L xs (d) 394 1966 [a0, a1, a2, a3, a4, a5, a6, some (.int z), a8] st M x = Rs L xs (d) 394 1968 [a0, a1, a2, a3, a4, a5, a6, some (.int z), a8] (.int z :: st) M x := Rs_next c394_1966 rfl
theorem c394_1968 : qx_code 394 1968 = some (1968, .ifCond .eq 7, 1971, 1975, 0, 0) := by decide +kernel
theorem s394_1968 {L : Nat} {xs : Nat → Int32} {d x : Nat} {M : qxM} {st : List Value} {ls : qxL} {z : Int32} : Rs L xs (d) 394 1968 ls (.int z :: st) M x = if z = 0 then Rs L xs (d) 394 1975 ls st M x else Rs L xs (d) 394 1971 ls st M x := Rs_ite c394_1968 rfl
theorem c394_1971 : qx_code 394 1971 = some (1971, .lconst 1, 1972, 0, 0, 0) := by decide +kernel
theorem s394_1971 {L : Nat} {xs : Nat → Int32} {d x : Nat} {M : qxM} {st : List Value} {ls : qxL} : Rs L xs (d) 394 1971 ls st M x = Rs L xs (d) 394 1972 ls (.long (Int64.ofNat 1) :: st) M x := Rs_next c394_1971 rfl
theorem c394_1972 : qx_code 394 1972 = some (1972, .goto 4, 1975, 1976, 0, 0) := by decide +kernel
theorem s394_1972 {L : Nat} {xs : Nat → Int32} {d x : Nat} {M : qxM} {st : List Value} {ls : qxL} : Rs L xs (d) 394 1972 ls st M x = Rs L xs (d) 394 1976 ls st M x := Rs_next c394_1972 rfl
theorem c394_1975 : qx_code 394 1975 = some (1975, .lconst 0, 1976, 0, 0, 0) := by decide +kernel
theorem s394_1975 {L : Nat} {xs : Nat → Int32} {d x : Nat} {M : qxM} {st : List Value} {ls : qxL} : Rs L xs (d) 394 1975 ls st M x = Rs L xs (d) 394 1976 ls (.long (Int64.ofNat 0) :: st) M x := Rs_next c394_1975 rfl
theorem c394_1976 : qx_code 394 1976 = some (1976, .lcmp, 1977, 0, 0, 0) := by decide +kernel
theorem s394_1976 {L : Nat} {xs : Nat → Int32} {d x : Nat} {M : qxM} {st : List Value} {ls : qxL} {z y : Int64} : Rs L xs (d) 394 1976 ls (.long y :: .long z :: st) M x = Rs L xs (d) 394 1977 ls (.int (lg_cmp z y) :: st) M x := Rs_next c394_1976 rfl
theorem c394_1977 : qx_code 394 1977 = some (1977, .ifCond .eq 5, 1980, 1982, 0, 0) := by decide +kernel
theorem s394_1977 {L : Nat} {xs : Nat → Int32} {d x : Nat} {M : qxM} {st : List Value} {ls : qxL} {z : Int32} : Rs L xs (d) 394 1977 ls (.int z :: st) M x = if z = 0 then Rs L xs (d) 394 1982 ls st M x else Rs L xs (d) 394 1980 ls st M x := Rs_ite c394_1977 rfl
theorem c394_1982 : qx_code 394 1982 = some (1982, .goto 1764, 1985, 3746, 0, 0) := by decide +kernel
theorem s394_1982 {L : Nat} {xs : Nat → Int32} {d x : Nat} {M : qxM} {st : List Value} {ls : qxL} : Rs L xs (d) 394 1982 ls st M x = Rs L xs (d) 394 3746 ls st M x := Rs_next c394_1982 rfl
theorem c394_1985 : qx_code 394 1985 = some (1985, .aload_n 1, 1986, 0, 0, 0) := by decide +kernel
theorem s394_1985 {L : Nat} {xs : Nat → Int32} {d x : Nat} {M : qxM} {st : List Value} {a0 a2 a3 a4 a5 a6 a7 a8 : Option Value} {z : Nat} : Rs L xs (d) 394 1985 [a0, some (.ref z), a2, a3, a4, a5, a6, a7, a8] st M x = Rs L xs (d) 394 1986 [a0, some (.ref z), a2, a3, a4, a5, a6, a7, a8] (.ref z :: st) M x := Rs_next c394_1985 rfl
theorem c394_1986 : qx_code 394 1986 = some (1986, .aload_n 3, 1987, 0, 0, 0) := by decide +kernel
theorem s394_1986 {L : Nat} {xs : Nat → Int32} {d x : Nat} {M : qxM} {st : List Value} {a0 a1 a2 a4 a5 a6 a7 a8 : Option Value} {z : Nat} : Rs L xs (d) 394 1986 [a0, a1, a2, some (.ref z), a4, a5, a6, a7, a8] st M x = Rs L xs (d) 394 1987 [a0, a1, a2, some (.ref z), a4, a5, a6, a7, a8] (.ref z :: st) M x := Rs_next c394_1986 rfl
theorem c394_1987 : qx_code 394 1987 = some (1987, .invokestatic 317, 1990, 363, 2, 1132) := by decide +kernel
theorem s394_1987 {L : Nat} {xs : Nat → Int32} {d x : Nat} {M : qxM} {st : List Value} {ls : qxL} {z0 : Nat} {z1 : Nat} (hs : st.length ≤ 4) : Rs L xs (d + 1) 394 1987 ls (.ref z1 :: .ref z0 :: st) M x = (Rs L xs d 363 0 [some (.ref z0), some (.ref z1), none] [] M 0).bind (qx_kn L xs (d + 1) 394 1987 1990 363 ls st x) := by
  have h1 : qx_act L xs (qx_rt 394) (1987, .invokestatic 317, 1990, 363, 2, 1132) ls (.ref z1 :: .ref z0 :: st) M = if 2 ≤ (.ref z1 :: .ref z0 :: st).length ∧ st.length ≤ 4 then some (.inr (.inr (.inr (363, [.ref z0, .ref z1], st)))) else none := rfl
  rw [if_pos ⟨by simp [List.length_cons]; try omega, hs⟩] at h1
  exact Rs_call c394_1987 h1 rfl
