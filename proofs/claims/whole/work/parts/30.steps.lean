/-! Steps: bitCount, the statics, Pupils. -/
theorem c334_0 : qx_code 334 0 = some (0, .iload_n 0, 1, 0, 0, 0) := by decide +kernel
theorem s334_0 {L : Nat} {xs : Nat → Int32} {d x : Nat} {M : qxM} {st : List Value} {z : Int32} : Rs L xs (d) 334 0 [some (.int z)] st M x = Rs L xs (d) 334 1 [some (.int z)] (.int z :: st) M x := Rs_next c334_0 rfl
theorem c334_1 : qx_code 334 1 = some (1, .iload_n 0, 2, 0, 0, 0) := by decide +kernel
theorem s334_1 {L : Nat} {xs : Nat → Int32} {d x : Nat} {M : qxM} {st : List Value} {z : Int32} : Rs L xs (d) 334 1 [some (.int z)] st M x = Rs L xs (d) 334 2 [some (.int z)] (.int z :: st) M x := Rs_next c334_1 rfl
theorem c334_2 : qx_code 334 2 = some (2, .iconst 1, 3, 0, 0, 0) := by decide +kernel
theorem s334_2 {L : Nat} {xs : Nat → Int32} {d x : Nat} {M : qxM} {st : List Value} {ls : qxL} : Rs L xs (d) 334 2 ls st M x = Rs L xs (d) 334 3 ls (.int (nI 1) :: st) M x := Rs_next c334_2 rfl
theorem c334_3 : qx_code 334 3 = some (3, .iushr, 4, 0, 0, 0) := by decide +kernel
theorem s334_3 {L : Nat} {xs : Nat → Int32} {d x : Nat} {M : qxM} {st : List Value} {ls : qxL} {z y : Int32} : Rs L xs (d) 334 3 ls (.int y :: .int z :: st) M x = Rs L xs (d) 334 4 ls (.int ((z.toUInt32 >>> (y.toUInt32 &&& Int32.toUInt32 31)).toInt32) :: st) M x := Rs_next c334_3 rfl
theorem c334_4 : qx_code 334 4 = some (4, .ldc_w 265, 7, 1431655765, 0, 760) := by decide +kernel
theorem s334_4 {L : Nat} {xs : Nat → Int32} {d x : Nat} {M : qxM} {st : List Value} {ls : qxL} : Rs L xs (d) 334 4 ls st M x = Rs L xs (d) 334 7 ls (.int (nI 1431655765) :: st) M x := Rs_next c334_4 rfl
theorem c334_7 : qx_code 334 7 = some (7, .iand, 8, 0, 0, 0) := by decide +kernel
theorem s334_7 {L : Nat} {xs : Nat → Int32} {d x : Nat} {M : qxM} {st : List Value} {ls : qxL} {z y : Int32} : Rs L xs (d) 334 7 ls (.int y :: .int z :: st) M x = Rs L xs (d) 334 8 ls (.int (z &&& y) :: st) M x := Rs_next c334_7 rfl
theorem c334_8 : qx_code 334 8 = some (8, .isub, 9, 0, 0, 0) := by decide +kernel
theorem s334_8 {L : Nat} {xs : Nat → Int32} {d x : Nat} {M : qxM} {st : List Value} {ls : qxL} {z y : Int32} : Rs L xs (d) 334 8 ls (.int y :: .int z :: st) M x = Rs L xs (d) 334 9 ls (.int (z - y) :: st) M x := Rs_next c334_8 rfl
theorem c334_9 : qx_code 334 9 = some (9, .istore_n 0, 10, 0, 0, 0) := by decide +kernel
theorem s334_9 {L : Nat} {xs : Nat → Int32} {d x : Nat} {M : qxM} {st : List Value} {a0 : Option Value} {z : Int32} : Rs L xs (d) 334 9 [a0] (.int z :: st) M x = Rs L xs (d) 334 10 [some (.int z)] st M x := Rs_next c334_9 rfl
theorem c334_10 : qx_code 334 10 = some (10, .iload_n 0, 11, 0, 0, 0) := by decide +kernel
theorem s334_10 {L : Nat} {xs : Nat → Int32} {d x : Nat} {M : qxM} {st : List Value} {z : Int32} : Rs L xs (d) 334 10 [some (.int z)] st M x = Rs L xs (d) 334 11 [some (.int z)] (.int z :: st) M x := Rs_next c334_10 rfl
theorem c334_11 : qx_code 334 11 = some (11, .ldc_w 266, 14, 858993459, 0, 761) := by decide +kernel
theorem s334_11 {L : Nat} {xs : Nat → Int32} {d x : Nat} {M : qxM} {st : List Value} {ls : qxL} : Rs L xs (d) 334 11 ls st M x = Rs L xs (d) 334 14 ls (.int (nI 858993459) :: st) M x := Rs_next c334_11 rfl
theorem c334_14 : qx_code 334 14 = some (14, .iand, 15, 0, 0, 0) := by decide +kernel
theorem s334_14 {L : Nat} {xs : Nat → Int32} {d x : Nat} {M : qxM} {st : List Value} {ls : qxL} {z y : Int32} : Rs L xs (d) 334 14 ls (.int y :: .int z :: st) M x = Rs L xs (d) 334 15 ls (.int (z &&& y) :: st) M x := Rs_next c334_14 rfl
theorem c334_15 : qx_code 334 15 = some (15, .iload_n 0, 16, 0, 0, 0) := by decide +kernel
theorem s334_15 {L : Nat} {xs : Nat → Int32} {d x : Nat} {M : qxM} {st : List Value} {z : Int32} : Rs L xs (d) 334 15 [some (.int z)] st M x = Rs L xs (d) 334 16 [some (.int z)] (.int z :: st) M x := Rs_next c334_15 rfl
theorem c334_16 : qx_code 334 16 = some (16, .iconst 2, 17, 0, 0, 0) := by decide +kernel
theorem s334_16 {L : Nat} {xs : Nat → Int32} {d x : Nat} {M : qxM} {st : List Value} {ls : qxL} : Rs L xs (d) 334 16 ls st M x = Rs L xs (d) 334 17 ls (.int (nI 2) :: st) M x := Rs_next c334_16 rfl
theorem c334_17 : qx_code 334 17 = some (17, .iushr, 18, 0, 0, 0) := by decide +kernel
theorem s334_17 {L : Nat} {xs : Nat → Int32} {d x : Nat} {M : qxM} {st : List Value} {ls : qxL} {z y : Int32} : Rs L xs (d) 334 17 ls (.int y :: .int z :: st) M x = Rs L xs (d) 334 18 ls (.int ((z.toUInt32 >>> (y.toUInt32 &&& Int32.toUInt32 31)).toInt32) :: st) M x := Rs_next c334_17 rfl
theorem c334_18 : qx_code 334 18 = some (18, .ldc_w 266, 21, 858993459, 0, 761) := by decide +kernel
theorem s334_18 {L : Nat} {xs : Nat → Int32} {d x : Nat} {M : qxM} {st : List Value} {ls : qxL} : Rs L xs (d) 334 18 ls st M x = Rs L xs (d) 334 21 ls (.int (nI 858993459) :: st) M x := Rs_next c334_18 rfl
theorem c334_21 : qx_code 334 21 = some (21, .iand, 22, 0, 0, 0) := by decide +kernel
theorem s334_21 {L : Nat} {xs : Nat → Int32} {d x : Nat} {M : qxM} {st : List Value} {ls : qxL} {z y : Int32} : Rs L xs (d) 334 21 ls (.int y :: .int z :: st) M x = Rs L xs (d) 334 22 ls (.int (z &&& y) :: st) M x := Rs_next c334_21 rfl
theorem c334_22 : qx_code 334 22 = some (22, .iadd, 23, 0, 0, 0) := by decide +kernel
theorem s334_22 {L : Nat} {xs : Nat → Int32} {d x : Nat} {M : qxM} {st : List Value} {ls : qxL} {z y : Int32} : Rs L xs (d) 334 22 ls (.int y :: .int z :: st) M x = Rs L xs (d) 334 23 ls (.int (z + y) :: st) M x := Rs_next c334_22 rfl
theorem c334_23 : qx_code 334 23 = some (23, .istore_n 0, 24, 0, 0, 0) := by decide +kernel
theorem s334_23 {L : Nat} {xs : Nat → Int32} {d x : Nat} {M : qxM} {st : List Value} {a0 : Option Value} {z : Int32} : Rs L xs (d) 334 23 [a0] (.int z :: st) M x = Rs L xs (d) 334 24 [some (.int z)] st M x := Rs_next c334_23 rfl
theorem c334_24 : qx_code 334 24 = some (24, .iload_n 0, 25, 0, 0, 0) := by decide +kernel
theorem s334_24 {L : Nat} {xs : Nat → Int32} {d x : Nat} {M : qxM} {st : List Value} {z : Int32} : Rs L xs (d) 334 24 [some (.int z)] st M x = Rs L xs (d) 334 25 [some (.int z)] (.int z :: st) M x := Rs_next c334_24 rfl
theorem c334_25 : qx_code 334 25 = some (25, .iload_n 0, 26, 0, 0, 0) := by decide +kernel
theorem s334_25 {L : Nat} {xs : Nat → Int32} {d x : Nat} {M : qxM} {st : List Value} {z : Int32} : Rs L xs (d) 334 25 [some (.int z)] st M x = Rs L xs (d) 334 26 [some (.int z)] (.int z :: st) M x := Rs_next c334_25 rfl
theorem c334_26 : qx_code 334 26 = some (26, .iconst 4, 27, 0, 0, 0) := by decide +kernel
theorem s334_26 {L : Nat} {xs : Nat → Int32} {d x : Nat} {M : qxM} {st : List Value} {ls : qxL} : Rs L xs (d) 334 26 ls st M x = Rs L xs (d) 334 27 ls (.int (nI 4) :: st) M x := Rs_next c334_26 rfl
theorem c334_27 : qx_code 334 27 = some (27, .iushr, 28, 0, 0, 0) := by decide +kernel
theorem s334_27 {L : Nat} {xs : Nat → Int32} {d x : Nat} {M : qxM} {st : List Value} {ls : qxL} {z y : Int32} : Rs L xs (d) 334 27 ls (.int y :: .int z :: st) M x = Rs L xs (d) 334 28 ls (.int ((z.toUInt32 >>> (y.toUInt32 &&& Int32.toUInt32 31)).toInt32) :: st) M x := Rs_next c334_27 rfl
theorem c334_28 : qx_code 334 28 = some (28, .iadd, 29, 0, 0, 0) := by decide +kernel
theorem s334_28 {L : Nat} {xs : Nat → Int32} {d x : Nat} {M : qxM} {st : List Value} {ls : qxL} {z y : Int32} : Rs L xs (d) 334 28 ls (.int y :: .int z :: st) M x = Rs L xs (d) 334 29 ls (.int (z + y) :: st) M x := Rs_next c334_28 rfl
theorem c334_29 : qx_code 334 29 = some (29, .ldc_w 267, 32, 252645135, 0, 762) := by decide +kernel
theorem s334_29 {L : Nat} {xs : Nat → Int32} {d x : Nat} {M : qxM} {st : List Value} {ls : qxL} : Rs L xs (d) 334 29 ls st M x = Rs L xs (d) 334 32 ls (.int (nI 252645135) :: st) M x := Rs_next c334_29 rfl
theorem c334_32 : qx_code 334 32 = some (32, .iand, 33, 0, 0, 0) := by decide +kernel
theorem s334_32 {L : Nat} {xs : Nat → Int32} {d x : Nat} {M : qxM} {st : List Value} {ls : qxL} {z y : Int32} : Rs L xs (d) 334 32 ls (.int y :: .int z :: st) M x = Rs L xs (d) 334 33 ls (.int (z &&& y) :: st) M x := Rs_next c334_32 rfl
theorem c334_33 : qx_code 334 33 = some (33, .istore_n 0, 34, 0, 0, 0) := by decide +kernel
theorem s334_33 {L : Nat} {xs : Nat → Int32} {d x : Nat} {M : qxM} {st : List Value} {a0 : Option Value} {z : Int32} : Rs L xs (d) 334 33 [a0] (.int z :: st) M x = Rs L xs (d) 334 34 [some (.int z)] st M x := Rs_next c334_33 rfl
theorem c334_34 : qx_code 334 34 = some (34, .iload_n 0, 35, 0, 0, 0) := by decide +kernel
theorem s334_34 {L : Nat} {xs : Nat → Int32} {d x : Nat} {M : qxM} {st : List Value} {z : Int32} : Rs L xs (d) 334 34 [some (.int z)] st M x = Rs L xs (d) 334 35 [some (.int z)] (.int z :: st) M x := Rs_next c334_34 rfl
theorem c334_35 : qx_code 334 35 = some (35, .iload_n 0, 36, 0, 0, 0) := by decide +kernel
theorem s334_35 {L : Nat} {xs : Nat → Int32} {d x : Nat} {M : qxM} {st : List Value} {z : Int32} : Rs L xs (d) 334 35 [some (.int z)] st M x = Rs L xs (d) 334 36 [some (.int z)] (.int z :: st) M x := Rs_next c334_35 rfl
theorem c334_36 : qx_code 334 36 = some (36, .bipush 8, 38, 0, 0, 0) := by decide +kernel
theorem s334_36 {L : Nat} {xs : Nat → Int32} {d x : Nat} {M : qxM} {st : List Value} {ls : qxL} : Rs L xs (d) 334 36 ls st M x = Rs L xs (d) 334 38 ls (.int (nI 8) :: st) M x := Rs_next c334_36 rfl
theorem c334_38 : qx_code 334 38 = some (38, .iushr, 39, 0, 0, 0) := by decide +kernel
theorem s334_38 {L : Nat} {xs : Nat → Int32} {d x : Nat} {M : qxM} {st : List Value} {ls : qxL} {z y : Int32} : Rs L xs (d) 334 38 ls (.int y :: .int z :: st) M x = Rs L xs (d) 334 39 ls (.int ((z.toUInt32 >>> (y.toUInt32 &&& Int32.toUInt32 31)).toInt32) :: st) M x := Rs_next c334_38 rfl
theorem c334_39 : qx_code 334 39 = some (39, .iadd, 40, 0, 0, 0) := by decide +kernel
theorem s334_39 {L : Nat} {xs : Nat → Int32} {d x : Nat} {M : qxM} {st : List Value} {ls : qxL} {z y : Int32} : Rs L xs (d) 334 39 ls (.int y :: .int z :: st) M x = Rs L xs (d) 334 40 ls (.int (z + y) :: st) M x := Rs_next c334_39 rfl
theorem c334_40 : qx_code 334 40 = some (40, .istore_n 0, 41, 0, 0, 0) := by decide +kernel
theorem s334_40 {L : Nat} {xs : Nat → Int32} {d x : Nat} {M : qxM} {st : List Value} {a0 : Option Value} {z : Int32} : Rs L xs (d) 334 40 [a0] (.int z :: st) M x = Rs L xs (d) 334 41 [some (.int z)] st M x := Rs_next c334_40 rfl
theorem c334_41 : qx_code 334 41 = some (41, .iload_n 0, 42, 0, 0, 0) := by decide +kernel
theorem s334_41 {L : Nat} {xs : Nat → Int32} {d x : Nat} {M : qxM} {st : List Value} {z : Int32} : Rs L xs (d) 334 41 [some (.int z)] st M x = Rs L xs (d) 334 42 [some (.int z)] (.int z :: st) M x := Rs_next c334_41 rfl
theorem c334_42 : qx_code 334 42 = some (42, .iload_n 0, 43, 0, 0, 0) := by decide +kernel
theorem s334_42 {L : Nat} {xs : Nat → Int32} {d x : Nat} {M : qxM} {st : List Value} {z : Int32} : Rs L xs (d) 334 42 [some (.int z)] st M x = Rs L xs (d) 334 43 [some (.int z)] (.int z :: st) M x := Rs_next c334_42 rfl
theorem c334_43 : qx_code 334 43 = some (43, .bipush 16, 45, 0, 0, 0) := by decide +kernel
theorem s334_43 {L : Nat} {xs : Nat → Int32} {d x : Nat} {M : qxM} {st : List Value} {ls : qxL} : Rs L xs (d) 334 43 ls st M x = Rs L xs (d) 334 45 ls (.int (nI 16) :: st) M x := Rs_next c334_43 rfl
theorem c334_45 : qx_code 334 45 = some (45, .iushr, 46, 0, 0, 0) := by decide +kernel
theorem s334_45 {L : Nat} {xs : Nat → Int32} {d x : Nat} {M : qxM} {st : List Value} {ls : qxL} {z y : Int32} : Rs L xs (d) 334 45 ls (.int y :: .int z :: st) M x = Rs L xs (d) 334 46 ls (.int ((z.toUInt32 >>> (y.toUInt32 &&& Int32.toUInt32 31)).toInt32) :: st) M x := Rs_next c334_45 rfl
theorem c334_46 : qx_code 334 46 = some (46, .iadd, 47, 0, 0, 0) := by decide +kernel
theorem s334_46 {L : Nat} {xs : Nat → Int32} {d x : Nat} {M : qxM} {st : List Value} {ls : qxL} {z y : Int32} : Rs L xs (d) 334 46 ls (.int y :: .int z :: st) M x = Rs L xs (d) 334 47 ls (.int (z + y) :: st) M x := Rs_next c334_46 rfl
theorem c334_47 : qx_code 334 47 = some (47, .istore_n 0, 48, 0, 0, 0) := by decide +kernel
theorem s334_47 {L : Nat} {xs : Nat → Int32} {d x : Nat} {M : qxM} {st : List Value} {a0 : Option Value} {z : Int32} : Rs L xs (d) 334 47 [a0] (.int z :: st) M x = Rs L xs (d) 334 48 [some (.int z)] st M x := Rs_next c334_47 rfl
theorem c334_48 : qx_code 334 48 = some (48, .iload_n 0, 49, 0, 0, 0) := by decide +kernel
theorem s334_48 {L : Nat} {xs : Nat → Int32} {d x : Nat} {M : qxM} {st : List Value} {z : Int32} : Rs L xs (d) 334 48 [some (.int z)] st M x = Rs L xs (d) 334 49 [some (.int z)] (.int z :: st) M x := Rs_next c334_48 rfl
theorem c334_49 : qx_code 334 49 = some (49, .bipush 63, 51, 0, 0, 0) := by decide +kernel
theorem s334_49 {L : Nat} {xs : Nat → Int32} {d x : Nat} {M : qxM} {st : List Value} {ls : qxL} : Rs L xs (d) 334 49 ls st M x = Rs L xs (d) 334 51 ls (.int (nI 63) :: st) M x := Rs_next c334_49 rfl
theorem c334_51 : qx_code 334 51 = some (51, .iand, 52, 0, 0, 0) := by decide +kernel
theorem s334_51 {L : Nat} {xs : Nat → Int32} {d x : Nat} {M : qxM} {st : List Value} {ls : qxL} {z y : Int32} : Rs L xs (d) 334 51 ls (.int y :: .int z :: st) M x = Rs L xs (d) 334 52 ls (.int (z &&& y) :: st) M x := Rs_next c334_51 rfl
theorem c334_52 : qx_code 334 52 = some (52, .ireturn, 53, 0, 0, 0) := by decide +kernel
theorem s334_52 {L : Nat} {xs : Nat → Int32} {d x : Nat} {M : qxM} {ls : qxL} {z : Int32} : Rs L xs (d) 334 52 ls [.int z] M x = some (.inl (some (.int z)), M, x) := Rs_ret c334_52 rfl
theorem c169_0 : qx_code 169 0 = some (0, .iload_n 0, 1, 0, 0, 0) := by decide +kernel
theorem s169_0 {L : Nat} {xs : Nat → Int32} {d x : Nat} {M : qxM} {st : List Value} {z : Int32} : Rs L xs (d) 169 0 [some (.int z)] st M x = Rs L xs (d) 169 1 [some (.int z)] (.int z :: st) M x := Rs_next c169_0 rfl
theorem c169_1 : qx_code 169 1 = some (1, .ifCond .lt 9, 4, 10, 0, 0) := by decide +kernel
theorem s169_1 {L : Nat} {xs : Nat → Int32} {d x : Nat} {M : qxM} {st : List Value} {ls : qxL} {z : Int32} : Rs L xs (d) 169 1 ls (.int z :: st) M x = if z < 0 then Rs L xs (d) 169 10 ls st M x else Rs L xs (d) 169 4 ls st M x := Rs_ite c169_1 rfl
theorem c169_4 : qx_code 169 4 = some (4, .iconst 1, 5, 0, 0, 0) := by decide +kernel
theorem s169_4 {L : Nat} {xs : Nat → Int32} {d x : Nat} {M : qxM} {st : List Value} {ls : qxL} : Rs L xs (d) 169 4 ls st M x = Rs L xs (d) 169 5 ls (.int (nI 1) :: st) M x := Rs_next c169_4 rfl
theorem c169_5 : qx_code 169 5 = some (5, .iload_n 0, 6, 0, 0, 0) := by decide +kernel
theorem s169_5 {L : Nat} {xs : Nat → Int32} {d x : Nat} {M : qxM} {st : List Value} {z : Int32} : Rs L xs (d) 169 5 [some (.int z)] st M x = Rs L xs (d) 169 6 [some (.int z)] (.int z :: st) M x := Rs_next c169_5 rfl
theorem c169_6 : qx_code 169 6 = some (6, .ishl, 7, 0, 0, 0) := by decide +kernel
theorem s169_6 {L : Nat} {xs : Nat → Int32} {d x : Nat} {M : qxM} {st : List Value} {ls : qxL} {z y : Int32} : Rs L xs (d) 169 6 ls (.int y :: .int z :: st) M x = Rs L xs (d) 169 7 ls (.int (z <<< (y &&& 31)) :: st) M x := Rs_next c169_6 rfl
theorem c169_7 : qx_code 169 7 = some (7, .goto 4, 10, 11, 0, 0) := by decide +kernel
theorem s169_7 {L : Nat} {xs : Nat → Int32} {d x : Nat} {M : qxM} {st : List Value} {ls : qxL} : Rs L xs (d) 169 7 ls st M x = Rs L xs (d) 169 11 ls st M x := Rs_next c169_7 rfl
theorem c169_10 : qx_code 169 10 = some (10, .iconst 0, 11, 0, 0, 0) := by decide +kernel
theorem s169_10 {L : Nat} {xs : Nat → Int32} {d x : Nat} {M : qxM} {st : List Value} {ls : qxL} : Rs L xs (d) 169 10 ls st M x = Rs L xs (d) 169 11 ls (.int (nI 0) :: st) M x := Rs_next c169_10 rfl
theorem c169_11 : qx_code 169 11 = some (11, .ireturn, 12, 0, 0, 0) := by decide +kernel
theorem s169_11 {L : Nat} {xs : Nat → Int32} {d x : Nat} {M : qxM} {ls : qxL} {z : Int32} : Rs L xs (d) 169 11 ls [.int z] M x = some (.inl (some (.int z)), M, x) := Rs_ret c169_11 rfl
theorem c170_0 : qx_code 170 0 = some (0, .iload_n 1, 1, 0, 0, 0) := by decide +kernel
theorem s170_0 {L : Nat} {xs : Nat → Int32} {d x : Nat} {M : qxM} {st : List Value} {a0 : Option Value} {z : Int32} : Rs L xs (d) 170 0 [a0, some (.int z)] st M x = Rs L xs (d) 170 1 [a0, some (.int z)] (.int z :: st) M x := Rs_next c170_0 rfl
theorem c170_1 : qx_code 170 1 = some (1, .ifCond .lt 15, 4, 16, 0, 0) := by decide +kernel
theorem s170_1 {L : Nat} {xs : Nat → Int32} {d x : Nat} {M : qxM} {st : List Value} {ls : qxL} {z : Int32} : Rs L xs (d) 170 1 ls (.int z :: st) M x = if z < 0 then Rs L xs (d) 170 16 ls st M x else Rs L xs (d) 170 4 ls st M x := Rs_ite c170_1 rfl
theorem c170_4 : qx_code 170 4 = some (4, .iload_n 0, 5, 0, 0, 0) := by decide +kernel
theorem s170_4 {L : Nat} {xs : Nat → Int32} {d x : Nat} {M : qxM} {st : List Value} {a1 : Option Value} {z : Int32} : Rs L xs (d) 170 4 [some (.int z), a1] st M x = Rs L xs (d) 170 5 [some (.int z), a1] (.int z :: st) M x := Rs_next c170_4 rfl
theorem c170_5 : qx_code 170 5 = some (5, .iload_n 1, 6, 0, 0, 0) := by decide +kernel
theorem s170_5 {L : Nat} {xs : Nat → Int32} {d x : Nat} {M : qxM} {st : List Value} {a0 : Option Value} {z : Int32} : Rs L xs (d) 170 5 [a0, some (.int z)] st M x = Rs L xs (d) 170 6 [a0, some (.int z)] (.int z :: st) M x := Rs_next c170_5 rfl
theorem c170_6 : qx_code 170 6 = some (6, .ishr, 7, 0, 0, 0) := by decide +kernel
theorem s170_6 {L : Nat} {xs : Nat → Int32} {d x : Nat} {M : qxM} {st : List Value} {ls : qxL} {z y : Int32} : Rs L xs (d) 170 6 ls (.int y :: .int z :: st) M x = Rs L xs (d) 170 7 ls (.int (z >>> (y &&& 31)) :: st) M x := Rs_next c170_6 rfl
theorem c170_7 : qx_code 170 7 = some (7, .iconst 1, 8, 0, 0, 0) := by decide +kernel
theorem s170_7 {L : Nat} {xs : Nat → Int32} {d x : Nat} {M : qxM} {st : List Value} {ls : qxL} : Rs L xs (d) 170 7 ls st M x = Rs L xs (d) 170 8 ls (.int (nI 1) :: st) M x := Rs_next c170_7 rfl
theorem c170_8 : qx_code 170 8 = some (8, .iand, 9, 0, 0, 0) := by decide +kernel
theorem s170_8 {L : Nat} {xs : Nat → Int32} {d x : Nat} {M : qxM} {st : List Value} {ls : qxL} {z y : Int32} : Rs L xs (d) 170 8 ls (.int y :: .int z :: st) M x = Rs L xs (d) 170 9 ls (.int (z &&& y) :: st) M x := Rs_next c170_8 rfl
theorem c170_9 : qx_code 170 9 = some (9, .ifCond .eq 7, 12, 16, 0, 0) := by decide +kernel
theorem s170_9 {L : Nat} {xs : Nat → Int32} {d x : Nat} {M : qxM} {st : List Value} {ls : qxL} {z : Int32} : Rs L xs (d) 170 9 ls (.int z :: st) M x = if z = 0 then Rs L xs (d) 170 16 ls st M x else Rs L xs (d) 170 12 ls st M x := Rs_ite c170_9 rfl
theorem c170_12 : qx_code 170 12 = some (12, .iconst 1, 13, 0, 0, 0) := by decide +kernel
theorem s170_12 {L : Nat} {xs : Nat → Int32} {d x : Nat} {M : qxM} {st : List Value} {ls : qxL} : Rs L xs (d) 170 12 ls st M x = Rs L xs (d) 170 13 ls (.int (nI 1) :: st) M x := Rs_next c170_12 rfl
theorem c170_13 : qx_code 170 13 = some (13, .goto 4, 16, 17, 0, 0) := by decide +kernel
theorem s170_13 {L : Nat} {xs : Nat → Int32} {d x : Nat} {M : qxM} {st : List Value} {ls : qxL} : Rs L xs (d) 170 13 ls st M x = Rs L xs (d) 170 17 ls st M x := Rs_next c170_13 rfl
theorem c170_16 : qx_code 170 16 = some (16, .iconst 0, 17, 0, 0, 0) := by decide +kernel
theorem s170_16 {L : Nat} {xs : Nat → Int32} {d x : Nat} {M : qxM} {st : List Value} {ls : qxL} : Rs L xs (d) 170 16 ls st M x = Rs L xs (d) 170 17 ls (.int (nI 0) :: st) M x := Rs_next c170_16 rfl
theorem c170_17 : qx_code 170 17 = some (17, .ireturn, 18, 0, 0, 0) := by decide +kernel
theorem s170_17 {L : Nat} {xs : Nat → Int32} {d x : Nat} {M : qxM} {ls : qxL} {z : Int32} (h01 : z = 0 ∨ z = 1) : Rs L xs (d) 170 17 ls [.int z] M x = some (.inl (some (.int z)), M, x) := Rs_retw h01 c170_17 rfl
theorem c171_0 : qx_code 171 0 = some (0, .iload_n 0, 1, 0, 0, 0) := by decide +kernel
theorem s171_0 {L : Nat} {xs : Nat → Int32} {d x : Nat} {M : qxM} {st : List Value} {z : Int32} : Rs L xs (d) 171 0 [some (.int z)] st M x = Rs L xs (d) 171 1 [some (.int z)] (.int z :: st) M x := Rs_next c171_0 rfl
theorem c171_1 : qx_code 171 1 = some (1, .iload_n 0, 2, 0, 0, 0) := by decide +kernel
theorem s171_1 {L : Nat} {xs : Nat → Int32} {d x : Nat} {M : qxM} {st : List Value} {z : Int32} : Rs L xs (d) 171 1 [some (.int z)] st M x = Rs L xs (d) 171 2 [some (.int z)] (.int z :: st) M x := Rs_next c171_1 rfl
theorem c171_2 : qx_code 171 2 = some (2, .ineg, 3, 0, 0, 0) := by decide +kernel
theorem s171_2 {L : Nat} {xs : Nat → Int32} {d x : Nat} {M : qxM} {st : List Value} {ls : qxL} {z : Int32} : Rs L xs (d) 171 2 ls (.int z :: st) M x = Rs L xs (d) 171 3 ls (.int (-z) :: st) M x := Rs_next c171_2 rfl
theorem c171_3 : qx_code 171 3 = some (3, .iand, 4, 0, 0, 0) := by decide +kernel
theorem s171_3 {L : Nat} {xs : Nat → Int32} {d x : Nat} {M : qxM} {st : List Value} {ls : qxL} {z y : Int32} : Rs L xs (d) 171 3 ls (.int y :: .int z :: st) M x = Rs L xs (d) 171 4 ls (.int (z &&& y) :: st) M x := Rs_next c171_3 rfl
theorem c171_4 : qx_code 171 4 = some (4, .iconst 1, 5, 0, 0, 0) := by decide +kernel
theorem s171_4 {L : Nat} {xs : Nat → Int32} {d x : Nat} {M : qxM} {st : List Value} {ls : qxL} : Rs L xs (d) 171 4 ls st M x = Rs L xs (d) 171 5 ls (.int (nI 1) :: st) M x := Rs_next c171_4 rfl
theorem c171_5 : qx_code 171 5 = some (5, .isub, 6, 0, 0, 0) := by decide +kernel
theorem s171_5 {L : Nat} {xs : Nat → Int32} {d x : Nat} {M : qxM} {st : List Value} {ls : qxL} {z y : Int32} : Rs L xs (d) 171 5 ls (.int y :: .int z :: st) M x = Rs L xs (d) 171 6 ls (.int (z - y) :: st) M x := Rs_next c171_5 rfl
theorem c171_6 : qx_code 171 6 = some (6, .invokestatic 130, 9, 334, 1, 772) := by decide +kernel
theorem s171_6 {L : Nat} {xs : Nat → Int32} {d x : Nat} {M : qxM} {st : List Value} {ls : qxL} {z0 : Int32} (hs : st.length ≤ 4) : Rs L xs (d + 1) 171 6 ls (.int z0 :: st) M x = (Rs L xs d 334 0 [some (.int z0)] [] M 0).bind (qx_kn L xs (d + 1) 171 6 9 334 ls st x) := by
  have h1 : qx_act L xs (qx_rt 171) (6, .invokestatic 130, 9, 334, 1, 772) ls (.int z0 :: st) M = if 1 ≤ (.int z0 :: st).length ∧ st.length ≤ 4 then some (.inr (.inr (.inr (334, [.int z0], st)))) else none := rfl
  rw [if_pos ⟨by simp [List.length_cons]; try omega, hs⟩] at h1
  exact Rs_call c171_6 h1 rfl
theorem c171_9 : qx_code 171 9 = some (9, .ireturn, 10, 0, 0, 0) := by decide +kernel
theorem s171_9 {L : Nat} {xs : Nat → Int32} {d x : Nat} {M : qxM} {ls : qxL} {z : Int32} : Rs L xs (d) 171 9 ls [.int z] M x = some (.inl (some (.int z)), M, x) := Rs_ret c171_9 rfl
theorem c172_0 : qx_code 172 0 = some (0, .iload_n 0, 1, 0, 0, 0) := by decide +kernel
theorem s172_0 {L : Nat} {xs : Nat → Int32} {d x : Nat} {M : qxM} {st : List Value} {a1 : Option Value} {z : Int32} : Rs L xs (d) 172 0 [some (.int z), a1] st M x = Rs L xs (d) 172 1 [some (.int z), a1] (.int z :: st) M x := Rs_next c172_0 rfl
theorem c172_1 : qx_code 172 1 = some (1, .iload_n 1, 2, 0, 0, 0) := by decide +kernel
theorem s172_1 {L : Nat} {xs : Nat → Int32} {d x : Nat} {M : qxM} {st : List Value} {a0 : Option Value} {z : Int32} : Rs L xs (d) 172 1 [a0, some (.int z)] st M x = Rs L xs (d) 172 2 [a0, some (.int z)] (.int z :: st) M x := Rs_next c172_1 rfl
theorem c172_2 : qx_code 172 2 = some (2, .invokestatic 166, 5, 170, 2, 803) := by decide +kernel
theorem s172_2 {L : Nat} {xs : Nat → Int32} {d x : Nat} {M : qxM} {st : List Value} {ls : qxL} {z0 : Int32} {z1 : Int32} (hs : st.length ≤ 4) : Rs L xs (d + 1) 172 2 ls (.int z1 :: .int z0 :: st) M x = (Rs L xs d 170 0 [some (.int z0), some (.int z1)] [] M 0).bind (qx_kn L xs (d + 1) 172 2 5 170 ls st x) := by
  have h1 : qx_act L xs (qx_rt 172) (2, .invokestatic 166, 5, 170, 2, 803) ls (.int z1 :: .int z0 :: st) M = if 2 ≤ (.int z1 :: .int z0 :: st).length ∧ st.length ≤ 4 then some (.inr (.inr (.inr (170, [.int z0, .int z1], st)))) else none := rfl
  rw [if_pos ⟨by simp [List.length_cons]; try omega, hs⟩] at h1
  exact Rs_call c172_2 h1 rfl
theorem c172_5 : qx_code 172 5 = some (5, .ifCond .eq 18, 8, 23, 0, 0) := by decide +kernel
theorem s172_5 {L : Nat} {xs : Nat → Int32} {d x : Nat} {M : qxM} {st : List Value} {ls : qxL} {z : Int32} : Rs L xs (d) 172 5 ls (.int z :: st) M x = if z = 0 then Rs L xs (d) 172 23 ls st M x else Rs L xs (d) 172 8 ls st M x := Rs_ite c172_5 rfl
theorem c172_8 : qx_code 172 8 = some (8, .iload_n 0, 9, 0, 0, 0) := by decide +kernel
theorem s172_8 {L : Nat} {xs : Nat → Int32} {d x : Nat} {M : qxM} {st : List Value} {a1 : Option Value} {z : Int32} : Rs L xs (d) 172 8 [some (.int z), a1] st M x = Rs L xs (d) 172 9 [some (.int z), a1] (.int z :: st) M x := Rs_next c172_8 rfl
theorem c172_9 : qx_code 172 9 = some (9, .iload_n 1, 10, 0, 0, 0) := by decide +kernel
theorem s172_9 {L : Nat} {xs : Nat → Int32} {d x : Nat} {M : qxM} {st : List Value} {a0 : Option Value} {z : Int32} : Rs L xs (d) 172 9 [a0, some (.int z)] st M x = Rs L xs (d) 172 10 [a0, some (.int z)] (.int z :: st) M x := Rs_next c172_9 rfl
theorem c172_10 : qx_code 172 10 = some (10, .invokestatic 306, 13, 169, 1, 864) := by decide +kernel
theorem s172_10 {L : Nat} {xs : Nat → Int32} {d x : Nat} {M : qxM} {st : List Value} {ls : qxL} {z0 : Int32} (hs : st.length ≤ 4) : Rs L xs (d + 1) 172 10 ls (.int z0 :: st) M x = (Rs L xs d 169 0 [some (.int z0)] [] M 0).bind (qx_kn L xs (d + 1) 172 10 13 169 ls st x) := by
  have h1 : qx_act L xs (qx_rt 172) (10, .invokestatic 306, 13, 169, 1, 864) ls (.int z0 :: st) M = if 1 ≤ (.int z0 :: st).length ∧ st.length ≤ 4 then some (.inr (.inr (.inr (169, [.int z0], st)))) else none := rfl
  rw [if_pos ⟨by simp [List.length_cons]; try omega, hs⟩] at h1
  exact Rs_call c172_10 h1 rfl
theorem c172_13 : qx_code 172 13 = some (13, .iconst 1, 14, 0, 0, 0) := by decide +kernel
theorem s172_13 {L : Nat} {xs : Nat → Int32} {d x : Nat} {M : qxM} {st : List Value} {ls : qxL} : Rs L xs (d) 172 13 ls st M x = Rs L xs (d) 172 14 ls (.int (nI 1) :: st) M x := Rs_next c172_13 rfl
theorem c172_14 : qx_code 172 14 = some (14, .isub, 15, 0, 0, 0) := by decide +kernel
theorem s172_14 {L : Nat} {xs : Nat → Int32} {d x : Nat} {M : qxM} {st : List Value} {ls : qxL} {z y : Int32} : Rs L xs (d) 172 14 ls (.int y :: .int z :: st) M x = Rs L xs (d) 172 15 ls (.int (z - y) :: st) M x := Rs_next c172_14 rfl
theorem c172_15 : qx_code 172 15 = some (15, .iand, 16, 0, 0, 0) := by decide +kernel
theorem s172_15 {L : Nat} {xs : Nat → Int32} {d x : Nat} {M : qxM} {st : List Value} {ls : qxL} {z y : Int32} : Rs L xs (d) 172 15 ls (.int y :: .int z :: st) M x = Rs L xs (d) 172 16 ls (.int (z &&& y) :: st) M x := Rs_next c172_15 rfl
theorem c172_16 : qx_code 172 16 = some (16, .ifCond .ne 7, 19, 23, 0, 0) := by decide +kernel
theorem s172_16 {L : Nat} {xs : Nat → Int32} {d x : Nat} {M : qxM} {st : List Value} {ls : qxL} {z : Int32} : Rs L xs (d) 172 16 ls (.int z :: st) M x = if z = 0 then Rs L xs (d) 172 19 ls st M x else Rs L xs (d) 172 23 ls st M x := Rs_ite c172_16 rfl
theorem c172_19 : qx_code 172 19 = some (19, .iconst 1, 20, 0, 0, 0) := by decide +kernel
theorem s172_19 {L : Nat} {xs : Nat → Int32} {d x : Nat} {M : qxM} {st : List Value} {ls : qxL} : Rs L xs (d) 172 19 ls st M x = Rs L xs (d) 172 20 ls (.int (nI 1) :: st) M x := Rs_next c172_19 rfl
theorem c172_20 : qx_code 172 20 = some (20, .goto 4, 23, 24, 0, 0) := by decide +kernel
theorem s172_20 {L : Nat} {xs : Nat → Int32} {d x : Nat} {M : qxM} {st : List Value} {ls : qxL} : Rs L xs (d) 172 20 ls st M x = Rs L xs (d) 172 24 ls st M x := Rs_next c172_20 rfl
theorem c172_23 : qx_code 172 23 = some (23, .iconst 0, 24, 0, 0, 0) := by decide +kernel
theorem s172_23 {L : Nat} {xs : Nat → Int32} {d x : Nat} {M : qxM} {st : List Value} {ls : qxL} : Rs L xs (d) 172 23 ls st M x = Rs L xs (d) 172 24 ls (.int (nI 0) :: st) M x := Rs_next c172_23 rfl
theorem c172_24 : qx_code 172 24 = some (24, .ireturn, 25, 0, 0, 0) := by decide +kernel
theorem s172_24 {L : Nat} {xs : Nat → Int32} {d x : Nat} {M : qxM} {ls : qxL} {z : Int32} (h01 : z = 0 ∨ z = 1) : Rs L xs (d) 172 24 ls [.int z] M x = some (.inl (some (.int z)), M, x) := Rs_retw h01 c172_24 rfl
theorem c173_0 : qx_code 173 0 = some (0, .iload_n 1, 1, 0, 0, 0) := by decide +kernel
theorem s173_0 {L : Nat} {xs : Nat → Int32} {d x : Nat} {M : qxM} {st : List Value} {a0 : Option Value} {z : Int32} : Rs L xs (d) 173 0 [a0, some (.int z)] st M x = Rs L xs (d) 173 1 [a0, some (.int z)] (.int z :: st) M x := Rs_next c173_0 rfl
theorem c173_1 : qx_code 173 1 = some (1, .ifCond .lt 15, 4, 16, 0, 0) := by decide +kernel
theorem s173_1 {L : Nat} {xs : Nat → Int32} {d x : Nat} {M : qxM} {st : List Value} {ls : qxL} {z : Int32} : Rs L xs (d) 173 1 ls (.int z :: st) M x = if z < 0 then Rs L xs (d) 173 16 ls st M x else Rs L xs (d) 173 4 ls st M x := Rs_ite c173_1 rfl
theorem c173_4 : qx_code 173 4 = some (4, .iload_n 1, 5, 0, 0, 0) := by decide +kernel
theorem s173_4 {L : Nat} {xs : Nat → Int32} {d x : Nat} {M : qxM} {st : List Value} {a0 : Option Value} {z : Int32} : Rs L xs (d) 173 4 [a0, some (.int z)] st M x = Rs L xs (d) 173 5 [a0, some (.int z)] (.int z :: st) M x := Rs_next c173_4 rfl
theorem c173_5 : qx_code 173 5 = some (5, .aload_n 0, 6, 0, 0, 0) := by decide +kernel
theorem s173_5 {L : Nat} {xs : Nat → Int32} {d x : Nat} {M : qxM} {st : List Value} {a1 : Option Value} {z : Nat} : Rs L xs (d) 173 5 [some (.ref z), a1] st M x = Rs L xs (d) 173 6 [some (.ref z), a1] (.ref z :: st) M x := Rs_next c173_5 rfl
theorem c173_6 : qx_code 173 6 = some (6, .arraylength, 7, 0, 0, 0) := by decide +kernel
theorem s173_6 {L : Nat} {xs : Nat → Int32} {d x : Nat} {M : qxM} {st : List Value} {ls : qxL} {t : Nat} (hk : qx_kd t < 6) : Rs L xs (d) 173 6 ls (.ref t :: st) M x = Rs L xs (d) 173 7 ls (.int (nI (qx_ln t)) :: st) M x := by
  have h1 := qx_kd_row hk rfl
  exact Rs_next c173_6 (by unfold qx_act; dsimp only; rw [h1]; rfl)
theorem c173_7 : qx_code 173 7 = some (7, .if_icmp .ge 9, 10, 16, 0, 0) := by decide +kernel
theorem s173_7 {L : Nat} {xs : Nat → Int32} {d x : Nat} {M : qxM} {st : List Value} {ls : qxL} {z y : Int32} : Rs L xs (d) 173 7 ls (.int y :: .int z :: st) M x = if y ≤ z then Rs L xs (d) 173 16 ls st M x else Rs L xs (d) 173 10 ls st M x := Rs_ite c173_7 rfl
theorem c173_10 : qx_code 173 10 = some (10, .aload_n 0, 11, 0, 0, 0) := by decide +kernel
theorem s173_10 {L : Nat} {xs : Nat → Int32} {d x : Nat} {M : qxM} {st : List Value} {a1 : Option Value} {z : Nat} : Rs L xs (d) 173 10 [some (.ref z), a1] st M x = Rs L xs (d) 173 11 [some (.ref z), a1] (.ref z :: st) M x := Rs_next c173_10 rfl
theorem c173_11 : qx_code 173 11 = some (11, .iload_n 1, 12, 0, 0, 0) := by decide +kernel
theorem s173_11 {L : Nat} {xs : Nat → Int32} {d x : Nat} {M : qxM} {st : List Value} {a0 : Option Value} {z : Int32} : Rs L xs (d) 173 11 [a0, some (.int z)] st M x = Rs L xs (d) 173 12 [a0, some (.int z)] (.int z :: st) M x := Rs_next c173_11 rfl
theorem c173_12 : qx_code 173 12 = some (12, .iaload, 13, 0, 0, 0) := by decide +kernel
theorem s173_12 {L : Nat} {xs : Nat → Int32} {d x : Nat} {M : qxM} {st : List Value} {ls : qxL} {t : Nat} {j : Int32} (hk : qx_kd t = 0) (hj : qx_ib j (qx_ln t) = true) : Rs L xs (d) 173 12 ls (.int j :: .ref t :: st) M x = Rs L xs (d) 173 13 ls (.int (M.1 t j.toNatClampNeg) :: st) M x := by
  have h1 := qx_kd_row (k := 0) (by decide) hk
  exact Rs_unless (qx_ib_not hj) c173_12 (by unfold qx_act; dsimp only; rw [h1]; rfl)
theorem c173_13 : qx_code 173 13 = some (13, .goto 4, 16, 17, 0, 0) := by decide +kernel
theorem s173_13 {L : Nat} {xs : Nat → Int32} {d x : Nat} {M : qxM} {st : List Value} {ls : qxL} : Rs L xs (d) 173 13 ls st M x = Rs L xs (d) 173 17 ls st M x := Rs_next c173_13 rfl
theorem c173_16 : qx_code 173 16 = some (16, .iconst (-1), 17, 0, 0, 0) := by decide +kernel
theorem s173_16 {L : Nat} {xs : Nat → Int32} {d x : Nat} {M : qxM} {st : List Value} {ls : qxL} : Rs L xs (d) 173 16 ls st M x = Rs L xs (d) 173 17 ls (.int (-1) :: st) M x := Rs_next c173_16 rfl
theorem c173_17 : qx_code 173 17 = some (17, .ireturn, 18, 0, 0, 0) := by decide +kernel
theorem s173_17 {L : Nat} {xs : Nat → Int32} {d x : Nat} {M : qxM} {ls : qxL} {z : Int32} : Rs L xs (d) 173 17 ls [.int z] M x = some (.inl (some (.int z)), M, x) := Rs_ret c173_17 rfl
theorem c174_0 : qx_code 174 0 = some (0, .iload_n 1, 1, 0, 0, 0) := by decide +kernel
theorem s174_0 {L : Nat} {xs : Nat → Int32} {d x : Nat} {M : qxM} {st : List Value} {a0 a2 : Option Value} {z : Int32} : Rs L xs (d) 174 0 [a0, some (.int z), a2] st M x = Rs L xs (d) 174 1 [a0, some (.int z), a2] (.int z :: st) M x := Rs_next c174_0 rfl
theorem c174_1 : qx_code 174 1 = some (1, .ifCond .lt 13, 4, 14, 0, 0) := by decide +kernel
theorem s174_1 {L : Nat} {xs : Nat → Int32} {d x : Nat} {M : qxM} {st : List Value} {ls : qxL} {z : Int32} : Rs L xs (d) 174 1 ls (.int z :: st) M x = if z < 0 then Rs L xs (d) 174 14 ls st M x else Rs L xs (d) 174 4 ls st M x := Rs_ite c174_1 rfl
theorem c174_4 : qx_code 174 4 = some (4, .iload_n 1, 5, 0, 0, 0) := by decide +kernel
theorem s174_4 {L : Nat} {xs : Nat → Int32} {d x : Nat} {M : qxM} {st : List Value} {a0 a2 : Option Value} {z : Int32} : Rs L xs (d) 174 4 [a0, some (.int z), a2] st M x = Rs L xs (d) 174 5 [a0, some (.int z), a2] (.int z :: st) M x := Rs_next c174_4 rfl
theorem c174_5 : qx_code 174 5 = some (5, .aload_n 0, 6, 0, 0, 0) := by decide +kernel
theorem s174_5 {L : Nat} {xs : Nat → Int32} {d x : Nat} {M : qxM} {st : List Value} {a1 a2 : Option Value} {z : Nat} : Rs L xs (d) 174 5 [some (.ref z), a1, a2] st M x = Rs L xs (d) 174 6 [some (.ref z), a1, a2] (.ref z :: st) M x := Rs_next c174_5 rfl
theorem c174_6 : qx_code 174 6 = some (6, .arraylength, 7, 0, 0, 0) := by decide +kernel
theorem s174_6 {L : Nat} {xs : Nat → Int32} {d x : Nat} {M : qxM} {st : List Value} {ls : qxL} {t : Nat} (hk : qx_kd t < 6) : Rs L xs (d) 174 6 ls (.ref t :: st) M x = Rs L xs (d) 174 7 ls (.int (nI (qx_ln t)) :: st) M x := by
  have h1 := qx_kd_row hk rfl
  exact Rs_next c174_6 (by unfold qx_act; dsimp only; rw [h1]; rfl)
theorem c174_7 : qx_code 174 7 = some (7, .if_icmp .ge 7, 10, 14, 0, 0) := by decide +kernel
theorem s174_7 {L : Nat} {xs : Nat → Int32} {d x : Nat} {M : qxM} {st : List Value} {ls : qxL} {z y : Int32} : Rs L xs (d) 174 7 ls (.int y :: .int z :: st) M x = if y ≤ z then Rs L xs (d) 174 14 ls st M x else Rs L xs (d) 174 10 ls st M x := Rs_ite c174_7 rfl
theorem c174_10 : qx_code 174 10 = some (10, .aload_n 0, 11, 0, 0, 0) := by decide +kernel
theorem s174_10 {L : Nat} {xs : Nat → Int32} {d x : Nat} {M : qxM} {st : List Value} {a1 a2 : Option Value} {z : Nat} : Rs L xs (d) 174 10 [some (.ref z), a1, a2] st M x = Rs L xs (d) 174 11 [some (.ref z), a1, a2] (.ref z :: st) M x := Rs_next c174_10 rfl
theorem c174_11 : qx_code 174 11 = some (11, .iload_n 1, 12, 0, 0, 0) := by decide +kernel
theorem s174_11 {L : Nat} {xs : Nat → Int32} {d x : Nat} {M : qxM} {st : List Value} {a0 a2 : Option Value} {z : Int32} : Rs L xs (d) 174 11 [a0, some (.int z), a2] st M x = Rs L xs (d) 174 12 [a0, some (.int z), a2] (.int z :: st) M x := Rs_next c174_11 rfl
theorem c174_12 : qx_code 174 12 = some (12, .iload_n 2, 13, 0, 0, 0) := by decide +kernel
theorem s174_12 {L : Nat} {xs : Nat → Int32} {d x : Nat} {M : qxM} {st : List Value} {a0 a1 : Option Value} {z : Int32} : Rs L xs (d) 174 12 [a0, a1, some (.int z)] st M x = Rs L xs (d) 174 13 [a0, a1, some (.int z)] (.int z :: st) M x := Rs_next c174_12 rfl
theorem c174_13 : qx_code 174 13 = some (13, .iastore, 14, 0, 0, 0) := by decide +kernel
theorem s174_13 {L : Nat} {xs : Nat → Int32} {d x : Nat} {M : qxM} {st : List Value} {ls : qxL} {t : Nat} {j : Int32} {z : Int32} (hk : qx_kd t = 0) (hj : qx_ib j (qx_ln t) = true) : Rs L xs (d) 174 13 ls (.int z :: .int j :: .ref t :: st) M x = Rs L xs (d) 174 14 ls st (qx_up M t j.toNatClampNeg z) x := by
  have h1 := qx_kd_row (k := 0) (by decide) hk
  exact Rs_unless (qx_ib_not hj) c174_13 (by unfold qx_act; dsimp only; rw [h1]; rfl)
theorem c174_14 : qx_code 174 14 = some (14, .return_, 15, 0, 0, 0) := by decide +kernel
theorem s174_14 {L : Nat} {xs : Nat → Int32} {d x : Nat} {M : qxM} {ls : qxL} : Rs L xs (d) 174 14 ls [] M x = some (.inl none, M, x) := Rs_ret c174_14 rfl
theorem c175_0 : qx_code 175 0 = some (0, .iconst 0, 1, 0, 0, 0) := by decide +kernel
theorem s175_0 {L : Nat} {xs : Nat → Int32} {d x : Nat} {M : qxM} {st : List Value} {ls : qxL} : Rs L xs (d) 175 0 ls st M x = Rs L xs (d) 175 1 ls (.int (nI 0) :: st) M x := Rs_next c175_0 rfl
theorem c175_1 : qx_code 175 1 = some (1, .istore_n 2, 2, 0, 0, 0) := by decide +kernel
theorem s175_1i {L : Nat} {xs : Nat → Int32} {d x : Nat} {M : qxM} {st : List Value} {a0 a2 : Option Value} {z : Int32} {y : Int32} : Rs L xs (d) 175 1 [a0, some (.int y), a2] (.int z :: st) M x = Rs L xs (d) 175 2 [a0, some (.int y), some (.int z)] st M x := Rs_next c175_1 rfl
theorem s175_1r {L : Nat} {xs : Nat → Int32} {d x : Nat} {M : qxM} {st : List Value} {a0 a2 : Option Value} {z : Int32} {y : Nat} : Rs L xs (d) 175 1 [a0, some (.ref y), a2] (.int z :: st) M x = Rs L xs (d) 175 2 [a0, some (.ref y), some (.int z)] st M x := Rs_next c175_1 rfl
theorem s175_1n {L : Nat} {xs : Nat → Int32} {d x : Nat} {M : qxM} {st : List Value} {a0 a2 : Option Value} {z : Int32} : Rs L xs (d) 175 1 [a0, none, a2] (.int z :: st) M x = Rs L xs (d) 175 2 [a0, none, some (.int z)] st M x := Rs_next c175_1 rfl
theorem c175_2 : qx_code 175 2 = some (2, .iload_n 2, 3, 0, 0, 0) := by decide +kernel
theorem s175_2 {L : Nat} {xs : Nat → Int32} {d x : Nat} {M : qxM} {st : List Value} {a0 a1 : Option Value} {z : Int32} : Rs L xs (d) 175 2 [a0, a1, some (.int z)] st M x = Rs L xs (d) 175 3 [a0, a1, some (.int z)] (.int z :: st) M x := Rs_next c175_2 rfl
theorem c175_3 : qx_code 175 3 = some (3, .aload_n 0, 4, 0, 0, 0) := by decide +kernel
theorem s175_3 {L : Nat} {xs : Nat → Int32} {d x : Nat} {M : qxM} {st : List Value} {a1 a2 : Option Value} {z : Nat} : Rs L xs (d) 175 3 [some (.ref z), a1, a2] st M x = Rs L xs (d) 175 4 [some (.ref z), a1, a2] (.ref z :: st) M x := Rs_next c175_3 rfl
theorem c175_4 : qx_code 175 4 = some (4, .arraylength, 5, 0, 0, 0) := by decide +kernel
theorem s175_4 {L : Nat} {xs : Nat → Int32} {d x : Nat} {M : qxM} {st : List Value} {ls : qxL} {t : Nat} (hk : qx_kd t < 6) : Rs L xs (d) 175 4 ls (.ref t :: st) M x = Rs L xs (d) 175 5 ls (.int (nI (qx_ln t)) :: st) M x := by
  have h1 := qx_kd_row hk rfl
  exact Rs_next c175_4 (by unfold qx_act; dsimp only; rw [h1]; rfl)
theorem c175_5 : qx_code 175 5 = some (5, .if_icmp .ge 13, 8, 18, 0, 0) := by decide +kernel
theorem s175_5 {L : Nat} {xs : Nat → Int32} {d x : Nat} {M : qxM} {st : List Value} {ls : qxL} {z y : Int32} : Rs L xs (d) 175 5 ls (.int y :: .int z :: st) M x = if y ≤ z then Rs L xs (d) 175 18 ls st M x else Rs L xs (d) 175 8 ls st M x := Rs_ite c175_5 rfl
theorem c175_8 : qx_code 175 8 = some (8, .aload_n 0, 9, 0, 0, 0) := by decide +kernel
theorem s175_8 {L : Nat} {xs : Nat → Int32} {d x : Nat} {M : qxM} {st : List Value} {a1 a2 : Option Value} {z : Nat} : Rs L xs (d) 175 8 [some (.ref z), a1, a2] st M x = Rs L xs (d) 175 9 [some (.ref z), a1, a2] (.ref z :: st) M x := Rs_next c175_8 rfl
theorem c175_9 : qx_code 175 9 = some (9, .iload_n 2, 10, 0, 0, 0) := by decide +kernel
theorem s175_9 {L : Nat} {xs : Nat → Int32} {d x : Nat} {M : qxM} {st : List Value} {a0 a1 : Option Value} {z : Int32} : Rs L xs (d) 175 9 [a0, a1, some (.int z)] st M x = Rs L xs (d) 175 10 [a0, a1, some (.int z)] (.int z :: st) M x := Rs_next c175_9 rfl
theorem c175_10 : qx_code 175 10 = some (10, .iload_n 1, 11, 0, 0, 0) := by decide +kernel
theorem s175_10 {L : Nat} {xs : Nat → Int32} {d x : Nat} {M : qxM} {st : List Value} {a0 a2 : Option Value} {z : Int32} : Rs L xs (d) 175 10 [a0, some (.int z), a2] st M x = Rs L xs (d) 175 11 [a0, some (.int z), a2] (.int z :: st) M x := Rs_next c175_10 rfl
theorem c175_11 : qx_code 175 11 = some (11, .iastore, 12, 0, 0, 0) := by decide +kernel
theorem s175_11 {L : Nat} {xs : Nat → Int32} {d x : Nat} {M : qxM} {st : List Value} {ls : qxL} {t : Nat} {j : Int32} {z : Int32} (hk : qx_kd t = 0) (hj : qx_ib j (qx_ln t) = true) : Rs L xs (d) 175 11 ls (.int z :: .int j :: .ref t :: st) M x = Rs L xs (d) 175 12 ls st (qx_up M t j.toNatClampNeg z) x := by
  have h1 := qx_kd_row (k := 0) (by decide) hk
  exact Rs_unless (qx_ib_not hj) c175_11 (by unfold qx_act; dsimp only; rw [h1]; rfl)
theorem c175_12 : qx_code 175 12 = some (12, .iinc 2 1, 15, 0, 0, 0) := by decide +kernel
theorem s175_12i {L : Nat} {xs : Nat → Int32} {d x : Nat} {M : qxM} {st : List Value} {a0 : Option Value} {z : Int32} {y : Int32} : Rs L xs (d) 175 12 [a0, some (.int y), some (.int z)] st M x = Rs L xs (d) 175 15 [a0, some (.int y), some (.int (z + (nI 1)))] st M x := Rs_next c175_12 rfl
theorem s175_12r {L : Nat} {xs : Nat → Int32} {d x : Nat} {M : qxM} {st : List Value} {a0 : Option Value} {z : Int32} {y : Nat} : Rs L xs (d) 175 12 [a0, some (.ref y), some (.int z)] st M x = Rs L xs (d) 175 15 [a0, some (.ref y), some (.int (z + (nI 1)))] st M x := Rs_next c175_12 rfl
theorem s175_12n {L : Nat} {xs : Nat → Int32} {d x : Nat} {M : qxM} {st : List Value} {a0 : Option Value} {z : Int32} : Rs L xs (d) 175 12 [a0, none, some (.int z)] st M x = Rs L xs (d) 175 15 [a0, none, some (.int (z + (nI 1)))] st M x := Rs_next c175_12 rfl
theorem c175_15 : qx_code 175 15 = some (15, .goto (-13), 18, 2, 0, 0) := by decide +kernel
theorem s175_15 {L : Nat} {xs : Nat → Int32} {d x : Nat} {M : qxM} {st : List Value} {ls : qxL} : Rs L xs (d) 175 15 ls st M x = Rs L xs (d) 175 2 ls st M x := Rs_next c175_15 rfl
theorem c175_18 : qx_code 175 18 = some (18, .return_, 19, 0, 0, 0) := by decide +kernel
theorem s175_18 {L : Nat} {xs : Nat → Int32} {d x : Nat} {M : qxM} {ls : qxL} : Rs L xs (d) 175 18 ls [] M x = some (.inl none, M, x) := Rs_ret c175_18 rfl
theorem c176_0 : qx_code 176 0 = some (0, .aload_n 0, 1, 0, 0, 0) := by decide +kernel
theorem s176_0 {L : Nat} {xs : Nat → Int32} {d x : Nat} {M : qxM} {st : List Value} {a1 : Option Value} {z : Nat} : Rs L xs (d) 176 0 [some (.ref z), a1] st M x = Rs L xs (d) 176 1 [some (.ref z), a1] (.ref z :: st) M x := Rs_next c176_0 rfl
theorem c176_1 : qx_code 176 1 = some (1, .iconst 0, 2, 0, 0, 0) := by decide +kernel
theorem s176_1 {L : Nat} {xs : Nat → Int32} {d x : Nat} {M : qxM} {st : List Value} {ls : qxL} : Rs L xs (d) 176 1 ls st M x = Rs L xs (d) 176 2 ls (.int (nI 0) :: st) M x := Rs_next c176_1 rfl
theorem c176_2 : qx_code 176 2 = some (2, .aload_n 1, 3, 0, 0, 0) := by decide +kernel
theorem s176_2 {L : Nat} {xs : Nat → Int32} {d x : Nat} {M : qxM} {st : List Value} {a0 : Option Value} {z : Nat} : Rs L xs (d) 176 2 [a0, some (.ref z)] st M x = Rs L xs (d) 176 3 [a0, some (.ref z)] (.ref z :: st) M x := Rs_next c176_2 rfl
theorem c176_3 : qx_code 176 3 = some (3, .iconst 0, 4, 0, 0, 0) := by decide +kernel
theorem s176_3 {L : Nat} {xs : Nat → Int32} {d x : Nat} {M : qxM} {st : List Value} {ls : qxL} : Rs L xs (d) 176 3 ls st M x = Rs L xs (d) 176 4 ls (.int (nI 0) :: st) M x := Rs_next c176_3 rfl
theorem c176_4 : qx_code 176 4 = some (4, .aload_n 0, 5, 0, 0, 0) := by decide +kernel
theorem s176_4 {L : Nat} {xs : Nat → Int32} {d x : Nat} {M : qxM} {st : List Value} {a1 : Option Value} {z : Nat} : Rs L xs (d) 176 4 [some (.ref z), a1] st M x = Rs L xs (d) 176 5 [some (.ref z), a1] (.ref z :: st) M x := Rs_next c176_4 rfl
theorem c176_5 : qx_code 176 5 = some (5, .arraylength, 6, 0, 0, 0) := by decide +kernel
theorem s176_5 {L : Nat} {xs : Nat → Int32} {d x : Nat} {M : qxM} {st : List Value} {ls : qxL} {t : Nat} (hk : qx_kd t < 6) : Rs L xs (d) 176 5 ls (.ref t :: st) M x = Rs L xs (d) 176 6 ls (.int (nI (qx_ln t)) :: st) M x := by
  have h1 := qx_kd_row hk rfl
  exact Rs_next c176_5 (by unfold qx_act; dsimp only; rw [h1]; rfl)
theorem c176_6 : qx_code 176 6 = some (6, .aload_n 1, 7, 0, 0, 0) := by decide +kernel
theorem s176_6 {L : Nat} {xs : Nat → Int32} {d x : Nat} {M : qxM} {st : List Value} {a0 : Option Value} {z : Nat} : Rs L xs (d) 176 6 [a0, some (.ref z)] st M x = Rs L xs (d) 176 7 [a0, some (.ref z)] (.ref z :: st) M x := Rs_next c176_6 rfl
theorem c176_7 : qx_code 176 7 = some (7, .arraylength, 8, 0, 0, 0) := by decide +kernel
theorem s176_7 {L : Nat} {xs : Nat → Int32} {d x : Nat} {M : qxM} {st : List Value} {ls : qxL} {t : Nat} (hk : qx_kd t < 6) : Rs L xs (d) 176 7 ls (.ref t :: st) M x = Rs L xs (d) 176 8 ls (.int (nI (qx_ln t)) :: st) M x := by
  have h1 := qx_kd_row hk rfl
  exact Rs_next c176_7 (by unfold qx_act; dsimp only; rw [h1]; rfl)
theorem c176_8 : qx_code 176 8 = some (8, .invokestatic 431, 11, 1003, 2, 710) := by decide +kernel
theorem s176_8 {L : Nat} {xs : Nat → Int32} {d x : Nat} {M : qxM} {st : List Value} {ls : qxL} {z y : Int32} (hs : st.length ≤ 4) : Rs L xs (d) 176 8 ls (.int y :: .int z :: st) M x = Rs L xs (d) 176 11 ls (.int (if y < z then y else z) :: st) M x := Rs_when hs c176_8 rfl
theorem c176_11 : qx_code 176 11 = some (11, .invokestatic 434, 14, 1004, 5, 713) := by decide +kernel
theorem s176_11 {L : Nat} {xs : Nat → Int32} {d x : Nat} {M : qxM} {st : List Value} {ls : qxL} {n dp sp : Int32} {t t0 : Nat} (hk0 : qx_kd t0 = 0) (hk : qx_kd t = 0) (hc : ¬ sp < 0 ∧ ¬ dp < 0 ∧ ¬ n < 0 ∧ sp.toNatClampNeg + n.toNatClampNeg ≤ qx_ln t0 ∧ dp.toNatClampNeg + n.toNatClampNeg ≤ qx_ln t ∧ st.length ≤ 4) : Rs L xs (d) 176 11 ls (.int n :: .int dp :: .ref t :: .int sp :: .ref t0 :: st) M x = Rs L xs (d) 176 14 ls st (qx_ur M t (va_cpy (M.1 t0) (M.1 t) sp.toNatClampNeg dp.toNatClampNeg n.toNatClampNeg)) x := by
  have h1 := qx_kd_row (k := 0) (by decide) hk0
  have h2 := qx_kd_row (k := 0) (by decide) hk
  exact Rs_when hc c176_11 (by unfold qx_act; dsimp only; rw [h1, h2]; rfl)
theorem c176_14 : qx_code 176 14 = some (14, .return_, 15, 0, 0, 0) := by decide +kernel
theorem s176_14 {L : Nat} {xs : Nat → Int32} {d x : Nat} {M : qxM} {ls : qxL} : Rs L xs (d) 176 14 ls [] M x = some (.inl none, M, x) := Rs_ret c176_14 rfl
theorem c34_0 : qx_code 34 0 = some (0, .aload_n 0, 1, 0, 0, 0) := by decide +kernel
theorem s34_0 {L : Nat} {xs : Nat → Int32} {d x : Nat} {M : qxM} {st : List Value} {z : Nat} : Rs L xs (d) 34 0 [some (.ref z)] st M x = Rs L xs (d) 34 1 [some (.ref z)] (.ref z :: st) M x := Rs_next c34_0 rfl
theorem c34_1 : qx_code 34 1 = some (1, .iconst 0, 2, 0, 0, 0) := by decide +kernel
theorem s34_1 {L : Nat} {xs : Nat → Int32} {d x : Nat} {M : qxM} {st : List Value} {ls : qxL} : Rs L xs (d) 34 1 ls st M x = Rs L xs (d) 34 2 ls (.int (nI 0) :: st) M x := Rs_next c34_1 rfl
theorem c34_2 : qx_code 34 2 = some (2, .putfield 18, 5, 2, 0, 165) := by decide +kernel
theorem s34_2 {L : Nat} {xs : Nat → Int32} {d x : Nat} {M : qxM} {st : List Value} {ls : qxL} {t : Nat} {z : Int32} (hk : qx_kd t = 12) : Rs L xs (d) 34 2 ls (.int z :: .ref t :: st) M x = Rs L xs (d) 34 5 ls st (qx_up M t 0 z) x := Rs_when (cnd := qx_sh t = some (.inl 2) ∧ qx_fo 2 0 = none ∧ (qx_bf 2 0 = true → z = 0 ∨ z = 1)) ⟨qx_kd_obj (k := 2) (by decide) hk, rfl, fun h => nomatch h⟩ c34_2 rfl
theorem c34_5 : qx_code 34 5 = some (5, .aload_n 0, 6, 0, 0, 0) := by decide +kernel
theorem s34_5 {L : Nat} {xs : Nat → Int32} {d x : Nat} {M : qxM} {st : List Value} {z : Nat} : Rs L xs (d) 34 5 [some (.ref z)] st M x = Rs L xs (d) 34 6 [some (.ref z)] (.ref z :: st) M x := Rs_next c34_5 rfl
theorem c34_6 : qx_code 34 6 = some (6, .iconst 0, 7, 0, 0, 0) := by decide +kernel
theorem s34_6 {L : Nat} {xs : Nat → Int32} {d x : Nat} {M : qxM} {st : List Value} {ls : qxL} : Rs L xs (d) 34 6 ls st M x = Rs L xs (d) 34 7 ls (.int (nI 0) :: st) M x := Rs_next c34_6 rfl
theorem c34_7 : qx_code 34 7 = some (7, .putfield 22, 10, 2, 1, 168) := by decide +kernel
theorem s34_7 {L : Nat} {xs : Nat → Int32} {d x : Nat} {M : qxM} {st : List Value} {ls : qxL} {t : Nat} {z : Int32} (hk : qx_kd t = 12) : Rs L xs (d) 34 7 ls (.int z :: .ref t :: st) M x = Rs L xs (d) 34 10 ls st (qx_up M t 1 z) x := Rs_when (cnd := qx_sh t = some (.inl 2) ∧ qx_fo 2 1 = none ∧ (qx_bf 2 1 = true → z = 0 ∨ z = 1)) ⟨qx_kd_obj (k := 2) (by decide) hk, rfl, fun h => nomatch h⟩ c34_7 rfl
theorem c34_10 : qx_code 34 10 = some (10, .aload_n 0, 11, 0, 0, 0) := by decide +kernel
theorem s34_10 {L : Nat} {xs : Nat → Int32} {d x : Nat} {M : qxM} {st : List Value} {z : Nat} : Rs L xs (d) 34 10 [some (.ref z)] st M x = Rs L xs (d) 34 11 [some (.ref z)] (.ref z :: st) M x := Rs_next c34_10 rfl
theorem c34_11 : qx_code 34 11 = some (11, .iconst 0, 12, 0, 0, 0) := by decide +kernel
theorem s34_11 {L : Nat} {xs : Nat → Int32} {d x : Nat} {M : qxM} {st : List Value} {ls : qxL} : Rs L xs (d) 34 11 ls st M x = Rs L xs (d) 34 12 ls (.int (nI 0) :: st) M x := Rs_next c34_11 rfl
theorem c34_12 : qx_code 34 12 = some (12, .putfield 25, 15, 2, 2, 171) := by decide +kernel
theorem s34_12 {L : Nat} {xs : Nat → Int32} {d x : Nat} {M : qxM} {st : List Value} {ls : qxL} {t : Nat} {z : Int32} (hk : qx_kd t = 12) : Rs L xs (d) 34 12 ls (.int z :: .ref t :: st) M x = Rs L xs (d) 34 15 ls st (qx_up M t 2 z) x := Rs_when (cnd := qx_sh t = some (.inl 2) ∧ qx_fo 2 2 = none ∧ (qx_bf 2 2 = true → z = 0 ∨ z = 1)) ⟨qx_kd_obj (k := 2) (by decide) hk, rfl, fun h => nomatch h⟩ c34_12 rfl
theorem c34_15 : qx_code 34 15 = some (15, .aload_n 0, 16, 0, 0, 0) := by decide +kernel
theorem s34_15 {L : Nat} {xs : Nat → Int32} {d x : Nat} {M : qxM} {st : List Value} {z : Nat} : Rs L xs (d) 34 15 [some (.ref z)] st M x = Rs L xs (d) 34 16 [some (.ref z)] (.ref z :: st) M x := Rs_next c34_15 rfl
theorem c34_16 : qx_code 34 16 = some (16, .getfield 9, 19, 2, 3, 173) := by decide +kernel
theorem s34_16 {L : Nat} {xs : Nat → Int32} {d x : Nat} {M : qxM} {st : List Value} {ls : qxL} {t : Nat} (hk : qx_kd t = 12) : Rs L xs (d) 34 16 ls (.ref t :: st) M x = Rs L xs (d) 34 19 ls (.ref (t + 1) :: st) M x := Rs_when (qx_kd_obj (k := 2) (by decide) hk) c34_16 rfl
theorem c34_19 : qx_code 34 19 = some (19, .iconst 0, 20, 0, 0, 0) := by decide +kernel
theorem s34_19 {L : Nat} {xs : Nat → Int32} {d x : Nat} {M : qxM} {st : List Value} {ls : qxL} : Rs L xs (d) 34 19 ls st M x = Rs L xs (d) 34 20 ls (.int (nI 0) :: st) M x := Rs_next c34_19 rfl
theorem c34_20 : qx_code 34 20 = some (20, .invokestatic 28, 23, 175, 2, 527) := by decide +kernel
theorem s34_20 {L : Nat} {xs : Nat → Int32} {d x : Nat} {M : qxM} {st : List Value} {ls : qxL} {z0 : Nat} {z1 : Int32} (hs : st.length ≤ 4) : Rs L xs (d + 1) 34 20 ls (.int z1 :: .ref z0 :: st) M x = (Rs L xs d 175 0 [some (.ref z0), some (.int z1), none] [] M 0).bind (qx_kn L xs (d + 1) 34 20 23 175 ls st x) := by
  have h1 : qx_act L xs (qx_rt 34) (20, .invokestatic 28, 23, 175, 2, 527) ls (.int z1 :: .ref z0 :: st) M = if 2 ≤ (.int z1 :: .ref z0 :: st).length ∧ st.length ≤ 4 then some (.inr (.inr (.inr (175, [.ref z0, .int z1], st)))) else none := rfl
  rw [if_pos ⟨by simp [List.length_cons]; try omega, hs⟩] at h1
  exact Rs_call c34_20 h1 rfl
theorem c34_23 : qx_code 34 23 = some (23, .aload_n 0, 24, 0, 0, 0) := by decide +kernel
theorem s34_23 {L : Nat} {xs : Nat → Int32} {d x : Nat} {M : qxM} {st : List Value} {z : Nat} : Rs L xs (d) 34 23 [some (.ref z)] st M x = Rs L xs (d) 34 24 [some (.ref z)] (.ref z :: st) M x := Rs_next c34_23 rfl
theorem c34_24 : qx_code 34 24 = some (24, .getfield 15, 27, 2, 4, 174) := by decide +kernel
theorem s34_24 {L : Nat} {xs : Nat → Int32} {d x : Nat} {M : qxM} {st : List Value} {ls : qxL} {t : Nat} (hk : qx_kd t = 12) : Rs L xs (d) 34 24 ls (.ref t :: st) M x = Rs L xs (d) 34 27 ls (.ref (t + 2) :: st) M x := Rs_when (qx_kd_obj (k := 2) (by decide) hk) c34_24 rfl
theorem c34_27 : qx_code 34 27 = some (27, .iconst (-1), 28, 0, 0, 0) := by decide +kernel
theorem s34_27 {L : Nat} {xs : Nat → Int32} {d x : Nat} {M : qxM} {st : List Value} {ls : qxL} : Rs L xs (d) 34 27 ls st M x = Rs L xs (d) 34 28 ls (.int (-1) :: st) M x := Rs_next c34_27 rfl
theorem c34_28 : qx_code 34 28 = some (28, .invokestatic 28, 31, 175, 2, 527) := by decide +kernel
theorem s34_28 {L : Nat} {xs : Nat → Int32} {d x : Nat} {M : qxM} {st : List Value} {ls : qxL} {z0 : Nat} {z1 : Int32} (hs : st.length ≤ 4) : Rs L xs (d + 1) 34 28 ls (.int z1 :: .ref z0 :: st) M x = (Rs L xs d 175 0 [some (.ref z0), some (.int z1), none] [] M 0).bind (qx_kn L xs (d + 1) 34 28 31 175 ls st x) := by
  have h1 : qx_act L xs (qx_rt 34) (28, .invokestatic 28, 31, 175, 2, 527) ls (.int z1 :: .ref z0 :: st) M = if 2 ≤ (.int z1 :: .ref z0 :: st).length ∧ st.length ≤ 4 then some (.inr (.inr (.inr (175, [.ref z0, .int z1], st)))) else none := rfl
  rw [if_pos ⟨by simp [List.length_cons]; try omega, hs⟩] at h1
  exact Rs_call c34_28 h1 rfl
theorem c34_31 : qx_code 34 31 = some (31, .return_, 32, 0, 0, 0) := by decide +kernel
theorem s34_31 {L : Nat} {xs : Nat → Int32} {d x : Nat} {M : qxM} {ls : qxL} : Rs L xs (d) 34 31 ls [] M x = some (.inl none, M, x) := Rs_ret c34_31 rfl
theorem c35_0 : qx_code 35 0 = some (0, .aload_n 0, 1, 0, 0, 0) := by decide +kernel
theorem s35_0 {L : Nat} {xs : Nat → Int32} {d x : Nat} {M : qxM} {st : List Value} {a1 : Option Value} {z : Nat} : Rs L xs (d) 35 0 [some (.ref z), a1] st M x = Rs L xs (d) 35 1 [some (.ref z), a1] (.ref z :: st) M x := Rs_next c35_0 rfl
theorem c35_1 : qx_code 35 1 = some (1, .aload_n 1, 2, 0, 0, 0) := by decide +kernel
theorem s35_1 {L : Nat} {xs : Nat → Int32} {d x : Nat} {M : qxM} {st : List Value} {a0 : Option Value} {z : Nat} : Rs L xs (d) 35 1 [a0, some (.ref z)] st M x = Rs L xs (d) 35 2 [a0, some (.ref z)] (.ref z :: st) M x := Rs_next c35_1 rfl
theorem c35_2 : qx_code 35 2 = some (2, .getfield 18, 5, 2, 0, 165) := by decide +kernel
theorem s35_2 {L : Nat} {xs : Nat → Int32} {d x : Nat} {M : qxM} {st : List Value} {ls : qxL} {t : Nat} (hk : qx_kd t = 12) : Rs L xs (d) 35 2 ls (.ref t :: st) M x = Rs L xs (d) 35 5 ls (.int (M.1 t 0) :: st) M x := Rs_when (qx_kd_obj (k := 2) (by decide) hk) c35_2 rfl
theorem c35_5 : qx_code 35 5 = some (5, .putfield 18, 8, 2, 0, 165) := by decide +kernel
theorem s35_5 {L : Nat} {xs : Nat → Int32} {d x : Nat} {M : qxM} {st : List Value} {ls : qxL} {t : Nat} {z : Int32} (hk : qx_kd t = 12) : Rs L xs (d) 35 5 ls (.int z :: .ref t :: st) M x = Rs L xs (d) 35 8 ls st (qx_up M t 0 z) x := Rs_when (cnd := qx_sh t = some (.inl 2) ∧ qx_fo 2 0 = none ∧ (qx_bf 2 0 = true → z = 0 ∨ z = 1)) ⟨qx_kd_obj (k := 2) (by decide) hk, rfl, fun h => nomatch h⟩ c35_5 rfl
theorem c35_8 : qx_code 35 8 = some (8, .aload_n 0, 9, 0, 0, 0) := by decide +kernel
theorem s35_8 {L : Nat} {xs : Nat → Int32} {d x : Nat} {M : qxM} {st : List Value} {a1 : Option Value} {z : Nat} : Rs L xs (d) 35 8 [some (.ref z), a1] st M x = Rs L xs (d) 35 9 [some (.ref z), a1] (.ref z :: st) M x := Rs_next c35_8 rfl
theorem c35_9 : qx_code 35 9 = some (9, .aload_n 1, 10, 0, 0, 0) := by decide +kernel
theorem s35_9 {L : Nat} {xs : Nat → Int32} {d x : Nat} {M : qxM} {st : List Value} {a0 : Option Value} {z : Nat} : Rs L xs (d) 35 9 [a0, some (.ref z)] st M x = Rs L xs (d) 35 10 [a0, some (.ref z)] (.ref z :: st) M x := Rs_next c35_9 rfl
theorem c35_10 : qx_code 35 10 = some (10, .getfield 22, 13, 2, 1, 168) := by decide +kernel
theorem s35_10 {L : Nat} {xs : Nat → Int32} {d x : Nat} {M : qxM} {st : List Value} {ls : qxL} {t : Nat} (hk : qx_kd t = 12) : Rs L xs (d) 35 10 ls (.ref t :: st) M x = Rs L xs (d) 35 13 ls (.int (M.1 t 1) :: st) M x := Rs_when (qx_kd_obj (k := 2) (by decide) hk) c35_10 rfl
theorem c35_13 : qx_code 35 13 = some (13, .putfield 22, 16, 2, 1, 168) := by decide +kernel
theorem s35_13 {L : Nat} {xs : Nat → Int32} {d x : Nat} {M : qxM} {st : List Value} {ls : qxL} {t : Nat} {z : Int32} (hk : qx_kd t = 12) : Rs L xs (d) 35 13 ls (.int z :: .ref t :: st) M x = Rs L xs (d) 35 16 ls st (qx_up M t 1 z) x := Rs_when (cnd := qx_sh t = some (.inl 2) ∧ qx_fo 2 1 = none ∧ (qx_bf 2 1 = true → z = 0 ∨ z = 1)) ⟨qx_kd_obj (k := 2) (by decide) hk, rfl, fun h => nomatch h⟩ c35_13 rfl
theorem c35_16 : qx_code 35 16 = some (16, .aload_n 0, 17, 0, 0, 0) := by decide +kernel
theorem s35_16 {L : Nat} {xs : Nat → Int32} {d x : Nat} {M : qxM} {st : List Value} {a1 : Option Value} {z : Nat} : Rs L xs (d) 35 16 [some (.ref z), a1] st M x = Rs L xs (d) 35 17 [some (.ref z), a1] (.ref z :: st) M x := Rs_next c35_16 rfl
theorem c35_17 : qx_code 35 17 = some (17, .aload_n 1, 18, 0, 0, 0) := by decide +kernel
theorem s35_17 {L : Nat} {xs : Nat → Int32} {d x : Nat} {M : qxM} {st : List Value} {a0 : Option Value} {z : Nat} : Rs L xs (d) 35 17 [a0, some (.ref z)] st M x = Rs L xs (d) 35 18 [a0, some (.ref z)] (.ref z :: st) M x := Rs_next c35_17 rfl
theorem c35_18 : qx_code 35 18 = some (18, .getfield 25, 21, 2, 2, 171) := by decide +kernel
theorem s35_18 {L : Nat} {xs : Nat → Int32} {d x : Nat} {M : qxM} {st : List Value} {ls : qxL} {t : Nat} (hk : qx_kd t = 12) : Rs L xs (d) 35 18 ls (.ref t :: st) M x = Rs L xs (d) 35 21 ls (.int (M.1 t 2) :: st) M x := Rs_when (qx_kd_obj (k := 2) (by decide) hk) c35_18 rfl
theorem c35_21 : qx_code 35 21 = some (21, .putfield 25, 24, 2, 2, 171) := by decide +kernel
theorem s35_21 {L : Nat} {xs : Nat → Int32} {d x : Nat} {M : qxM} {st : List Value} {ls : qxL} {t : Nat} {z : Int32} (hk : qx_kd t = 12) : Rs L xs (d) 35 21 ls (.int z :: .ref t :: st) M x = Rs L xs (d) 35 24 ls st (qx_up M t 2 z) x := Rs_when (cnd := qx_sh t = some (.inl 2) ∧ qx_fo 2 2 = none ∧ (qx_bf 2 2 = true → z = 0 ∨ z = 1)) ⟨qx_kd_obj (k := 2) (by decide) hk, rfl, fun h => nomatch h⟩ c35_21 rfl
theorem c35_24 : qx_code 35 24 = some (24, .aload_n 1, 25, 0, 0, 0) := by decide +kernel
theorem s35_24 {L : Nat} {xs : Nat → Int32} {d x : Nat} {M : qxM} {st : List Value} {a0 : Option Value} {z : Nat} : Rs L xs (d) 35 24 [a0, some (.ref z)] st M x = Rs L xs (d) 35 25 [a0, some (.ref z)] (.ref z :: st) M x := Rs_next c35_24 rfl
theorem c35_25 : qx_code 35 25 = some (25, .getfield 9, 28, 2, 3, 173) := by decide +kernel
theorem s35_25 {L : Nat} {xs : Nat → Int32} {d x : Nat} {M : qxM} {st : List Value} {ls : qxL} {t : Nat} (hk : qx_kd t = 12) : Rs L xs (d) 35 25 ls (.ref t :: st) M x = Rs L xs (d) 35 28 ls (.ref (t + 1) :: st) M x := Rs_when (qx_kd_obj (k := 2) (by decide) hk) c35_25 rfl
theorem c35_28 : qx_code 35 28 = some (28, .aload_n 0, 29, 0, 0, 0) := by decide +kernel
theorem s35_28 {L : Nat} {xs : Nat → Int32} {d x : Nat} {M : qxM} {st : List Value} {a1 : Option Value} {z : Nat} : Rs L xs (d) 35 28 [some (.ref z), a1] st M x = Rs L xs (d) 35 29 [some (.ref z), a1] (.ref z :: st) M x := Rs_next c35_28 rfl
theorem c35_29 : qx_code 35 29 = some (29, .getfield 9, 32, 2, 3, 173) := by decide +kernel
theorem s35_29 {L : Nat} {xs : Nat → Int32} {d x : Nat} {M : qxM} {st : List Value} {ls : qxL} {t : Nat} (hk : qx_kd t = 12) : Rs L xs (d) 35 29 ls (.ref t :: st) M x = Rs L xs (d) 35 32 ls (.ref (t + 1) :: st) M x := Rs_when (qx_kd_obj (k := 2) (by decide) hk) c35_29 rfl
theorem c35_32 : qx_code 35 32 = some (32, .invokestatic 32, 35, 176, 2, 707) := by decide +kernel
theorem s35_32 {L : Nat} {xs : Nat → Int32} {d x : Nat} {M : qxM} {st : List Value} {ls : qxL} {z0 : Nat} {z1 : Nat} (hs : st.length ≤ 4) : Rs L xs (d + 1) 35 32 ls (.ref z1 :: .ref z0 :: st) M x = (Rs L xs d 176 0 [some (.ref z0), some (.ref z1)] [] M 0).bind (qx_kn L xs (d + 1) 35 32 35 176 ls st x) := by
  have h1 : qx_act L xs (qx_rt 35) (32, .invokestatic 32, 35, 176, 2, 707) ls (.ref z1 :: .ref z0 :: st) M = if 2 ≤ (.ref z1 :: .ref z0 :: st).length ∧ st.length ≤ 4 then some (.inr (.inr (.inr (176, [.ref z0, .ref z1], st)))) else none := rfl
  rw [if_pos ⟨by simp [List.length_cons]; try omega, hs⟩] at h1
  exact Rs_call c35_32 h1 rfl
theorem c35_35 : qx_code 35 35 = some (35, .aload_n 1, 36, 0, 0, 0) := by decide +kernel
theorem s35_35 {L : Nat} {xs : Nat → Int32} {d x : Nat} {M : qxM} {st : List Value} {a0 : Option Value} {z : Nat} : Rs L xs (d) 35 35 [a0, some (.ref z)] st M x = Rs L xs (d) 35 36 [a0, some (.ref z)] (.ref z :: st) M x := Rs_next c35_35 rfl
theorem c35_36 : qx_code 35 36 = some (36, .getfield 15, 39, 2, 4, 174) := by decide +kernel
theorem s35_36 {L : Nat} {xs : Nat → Int32} {d x : Nat} {M : qxM} {st : List Value} {ls : qxL} {t : Nat} (hk : qx_kd t = 12) : Rs L xs (d) 35 36 ls (.ref t :: st) M x = Rs L xs (d) 35 39 ls (.ref (t + 2) :: st) M x := Rs_when (qx_kd_obj (k := 2) (by decide) hk) c35_36 rfl
theorem c35_39 : qx_code 35 39 = some (39, .aload_n 0, 40, 0, 0, 0) := by decide +kernel
theorem s35_39 {L : Nat} {xs : Nat → Int32} {d x : Nat} {M : qxM} {st : List Value} {a1 : Option Value} {z : Nat} : Rs L xs (d) 35 39 [some (.ref z), a1] st M x = Rs L xs (d) 35 40 [some (.ref z), a1] (.ref z :: st) M x := Rs_next c35_39 rfl
theorem c35_40 : qx_code 35 40 = some (40, .getfield 15, 43, 2, 4, 174) := by decide +kernel
theorem s35_40 {L : Nat} {xs : Nat → Int32} {d x : Nat} {M : qxM} {st : List Value} {ls : qxL} {t : Nat} (hk : qx_kd t = 12) : Rs L xs (d) 35 40 ls (.ref t :: st) M x = Rs L xs (d) 35 43 ls (.ref (t + 2) :: st) M x := Rs_when (qx_kd_obj (k := 2) (by decide) hk) c35_40 rfl
theorem c35_43 : qx_code 35 43 = some (43, .invokestatic 32, 46, 176, 2, 707) := by decide +kernel
theorem s35_43 {L : Nat} {xs : Nat → Int32} {d x : Nat} {M : qxM} {st : List Value} {ls : qxL} {z0 : Nat} {z1 : Nat} (hs : st.length ≤ 4) : Rs L xs (d + 1) 35 43 ls (.ref z1 :: .ref z0 :: st) M x = (Rs L xs d 176 0 [some (.ref z0), some (.ref z1)] [] M 0).bind (qx_kn L xs (d + 1) 35 43 46 176 ls st x) := by
  have h1 : qx_act L xs (qx_rt 35) (43, .invokestatic 32, 46, 176, 2, 707) ls (.ref z1 :: .ref z0 :: st) M = if 2 ≤ (.ref z1 :: .ref z0 :: st).length ∧ st.length ≤ 4 then some (.inr (.inr (.inr (176, [.ref z0, .ref z1], st)))) else none := rfl
  rw [if_pos ⟨by simp [List.length_cons]; try omega, hs⟩] at h1
  exact Rs_call c35_43 h1 rfl
theorem c35_46 : qx_code 35 46 = some (46, .return_, 47, 0, 0, 0) := by decide +kernel
theorem s35_46 {L : Nat} {xs : Nat → Int32} {d x : Nat} {M : qxM} {ls : qxL} : Rs L xs (d) 35 46 ls [] M x = some (.inl none, M, x) := Rs_ret c35_46 rfl
theorem c36_0 : qx_code 36 0 = some (0, .aload_n 0, 1, 0, 0, 0) := by decide +kernel
theorem s36_0 {L : Nat} {xs : Nat → Int32} {d x : Nat} {M : qxM} {st : List Value} {z : Nat} : Rs L xs (d) 36 0 [some (.ref z)] st M x = Rs L xs (d) 36 1 [some (.ref z)] (.ref z :: st) M x := Rs_next c36_0 rfl
theorem c36_1 : qx_code 36 1 = some (1, .getfield 18, 4, 2, 0, 165) := by decide +kernel
theorem s36_1 {L : Nat} {xs : Nat → Int32} {d x : Nat} {M : qxM} {st : List Value} {ls : qxL} {t : Nat} (hk : qx_kd t = 12) : Rs L xs (d) 36 1 ls (.ref t :: st) M x = Rs L xs (d) 36 4 ls (.int (M.1 t 0) :: st) M x := Rs_when (qx_kd_obj (k := 2) (by decide) hk) c36_1 rfl
theorem c36_4 : qx_code 36 4 = some (4, .invokestatic 36, 7, 169, 1, 659) := by decide +kernel
theorem s36_4 {L : Nat} {xs : Nat → Int32} {d x : Nat} {M : qxM} {st : List Value} {ls : qxL} {z0 : Int32} (hs : st.length ≤ 4) : Rs L xs (d + 1) 36 4 ls (.int z0 :: st) M x = (Rs L xs d 169 0 [some (.int z0)] [] M 0).bind (qx_kn L xs (d + 1) 36 4 7 169 ls st x) := by
  have h1 : qx_act L xs (qx_rt 36) (4, .invokestatic 36, 7, 169, 1, 659) ls (.int z0 :: st) M = if 1 ≤ (.int z0 :: st).length ∧ st.length ≤ 4 then some (.inr (.inr (.inr (169, [.int z0], st)))) else none := rfl
  rw [if_pos ⟨by simp [List.length_cons]; try omega, hs⟩] at h1
  exact Rs_call c36_4 h1 rfl
theorem c36_7 : qx_code 36 7 = some (7, .iconst 1, 8, 0, 0, 0) := by decide +kernel
theorem s36_7 {L : Nat} {xs : Nat → Int32} {d x : Nat} {M : qxM} {st : List Value} {ls : qxL} : Rs L xs (d) 36 7 ls st M x = Rs L xs (d) 36 8 ls (.int (nI 1) :: st) M x := Rs_next c36_7 rfl
theorem c36_8 : qx_code 36 8 = some (8, .isub, 9, 0, 0, 0) := by decide +kernel
theorem s36_8 {L : Nat} {xs : Nat → Int32} {d x : Nat} {M : qxM} {st : List Value} {ls : qxL} {z y : Int32} : Rs L xs (d) 36 8 ls (.int y :: .int z :: st) M x = Rs L xs (d) 36 9 ls (.int (z - y) :: st) M x := Rs_next c36_8 rfl
theorem c36_9 : qx_code 36 9 = some (9, .ireturn, 10, 0, 0, 0) := by decide +kernel
theorem s36_9 {L : Nat} {xs : Nat → Int32} {d x : Nat} {M : qxM} {ls : qxL} {z : Int32} : Rs L xs (d) 36 9 ls [.int z] M x = some (.inl (some (.int z)), M, x) := Rs_ret c36_9 rfl
theorem c37_0 : qx_code 37 0 = some (0, .aload_n 0, 1, 0, 0, 0) := by decide +kernel
theorem s37_0 {L : Nat} {xs : Nat → Int32} {d x : Nat} {M : qxM} {st : List Value} {a1 : Option Value} {z : Nat} : Rs L xs (d) 37 0 [some (.ref z), a1] st M x = Rs L xs (d) 37 1 [some (.ref z), a1] (.ref z :: st) M x := Rs_next c37_0 rfl
theorem c37_1 : qx_code 37 1 = some (1, .getfield 25, 4, 2, 2, 171) := by decide +kernel
theorem s37_1 {L : Nat} {xs : Nat → Int32} {d x : Nat} {M : qxM} {st : List Value} {ls : qxL} {t : Nat} (hk : qx_kd t = 12) : Rs L xs (d) 37 1 ls (.ref t :: st) M x = Rs L xs (d) 37 4 ls (.int (M.1 t 2) :: st) M x := Rs_when (qx_kd_obj (k := 2) (by decide) hk) c37_1 rfl
theorem c37_4 : qx_code 37 4 = some (4, .iload_n 1, 5, 0, 0, 0) := by decide +kernel
theorem s37_4 {L : Nat} {xs : Nat → Int32} {d x : Nat} {M : qxM} {st : List Value} {a0 : Option Value} {z : Int32} : Rs L xs (d) 37 4 [a0, some (.int z)] st M x = Rs L xs (d) 37 5 [a0, some (.int z)] (.int z :: st) M x := Rs_next c37_4 rfl
theorem c37_5 : qx_code 37 5 = some (5, .invokestatic 40, 8, 170, 2, 646) := by decide +kernel
theorem s37_5 {L : Nat} {xs : Nat → Int32} {d x : Nat} {M : qxM} {st : List Value} {ls : qxL} {z0 : Int32} {z1 : Int32} (hs : st.length ≤ 4) : Rs L xs (d + 1) 37 5 ls (.int z1 :: .int z0 :: st) M x = (Rs L xs d 170 0 [some (.int z0), some (.int z1)] [] M 0).bind (qx_kn L xs (d + 1) 37 5 8 170 ls st x) := by
  have h1 : qx_act L xs (qx_rt 37) (5, .invokestatic 40, 8, 170, 2, 646) ls (.int z1 :: .int z0 :: st) M = if 2 ≤ (.int z1 :: .int z0 :: st).length ∧ st.length ≤ 4 then some (.inr (.inr (.inr (170, [.int z0, .int z1], st)))) else none := rfl
  rw [if_pos ⟨by simp [List.length_cons]; try omega, hs⟩] at h1
  exact Rs_call c37_5 h1 rfl
theorem c37_8 : qx_code 37 8 = some (8, .ifCond .eq 7, 11, 15, 0, 0) := by decide +kernel
theorem s37_8 {L : Nat} {xs : Nat → Int32} {d x : Nat} {M : qxM} {st : List Value} {ls : qxL} {z : Int32} : Rs L xs (d) 37 8 ls (.int z :: st) M x = if z = 0 then Rs L xs (d) 37 15 ls st M x else Rs L xs (d) 37 11 ls st M x := Rs_ite c37_8 rfl
theorem c37_11 : qx_code 37 11 = some (11, .iconst 1, 12, 0, 0, 0) := by decide +kernel
theorem s37_11 {L : Nat} {xs : Nat → Int32} {d x : Nat} {M : qxM} {st : List Value} {ls : qxL} : Rs L xs (d) 37 11 ls st M x = Rs L xs (d) 37 12 ls (.int (nI 1) :: st) M x := Rs_next c37_11 rfl
theorem c37_12 : qx_code 37 12 = some (12, .goto 4, 15, 16, 0, 0) := by decide +kernel
theorem s37_12 {L : Nat} {xs : Nat → Int32} {d x : Nat} {M : qxM} {st : List Value} {ls : qxL} : Rs L xs (d) 37 12 ls st M x = Rs L xs (d) 37 16 ls st M x := Rs_next c37_12 rfl
theorem c37_15 : qx_code 37 15 = some (15, .iconst 0, 16, 0, 0, 0) := by decide +kernel
theorem s37_15 {L : Nat} {xs : Nat → Int32} {d x : Nat} {M : qxM} {st : List Value} {ls : qxL} : Rs L xs (d) 37 15 ls st M x = Rs L xs (d) 37 16 ls (.int (nI 0) :: st) M x := Rs_next c37_15 rfl
theorem c37_16 : qx_code 37 16 = some (16, .ireturn, 17, 0, 0, 0) := by decide +kernel
theorem s37_16 {L : Nat} {xs : Nat → Int32} {d x : Nat} {M : qxM} {ls : qxL} {z : Int32} : Rs L xs (d) 37 16 ls [.int z] M x = some (.inl (some (.int z)), M, x) := Rs_ret c37_16 rfl
theorem c38_0 : qx_code 38 0 = some (0, .aload_n 0, 1, 0, 0, 0) := by decide +kernel
theorem s38_0 {L : Nat} {xs : Nat → Int32} {d x : Nat} {M : qxM} {st : List Value} {a1 a2 : Option Value} {z : Nat} : Rs L xs (d) 38 0 [some (.ref z), a1, a2] st M x = Rs L xs (d) 38 1 [some (.ref z), a1, a2] (.ref z :: st) M x := Rs_next c38_0 rfl
theorem c38_1 : qx_code 38 1 = some (1, .iload_n 2, 2, 0, 0, 0) := by decide +kernel
theorem s38_1 {L : Nat} {xs : Nat → Int32} {d x : Nat} {M : qxM} {st : List Value} {a0 a1 : Option Value} {z : Int32} : Rs L xs (d) 38 1 [a0, a1, some (.int z)] st M x = Rs L xs (d) 38 2 [a0, a1, some (.int z)] (.int z :: st) M x := Rs_next c38_1 rfl
theorem c38_2 : qx_code 38 2 = some (2, .iconst 1, 3, 0, 0, 0) := by decide +kernel
theorem s38_2 {L : Nat} {xs : Nat → Int32} {d x : Nat} {M : qxM} {st : List Value} {ls : qxL} : Rs L xs (d) 38 2 ls st M x = Rs L xs (d) 38 3 ls (.int (nI 1) :: st) M x := Rs_next c38_2 rfl
theorem c38_3 : qx_code 38 3 = some (3, .if_icmp .ne 15, 6, 18, 0, 0) := by decide +kernel
theorem s38_3 {L : Nat} {xs : Nat → Int32} {d x : Nat} {M : qxM} {st : List Value} {ls : qxL} {z y : Int32} : Rs L xs (d) 38 3 ls (.int y :: .int z :: st) M x = if z = y then Rs L xs (d) 38 6 ls st M x else Rs L xs (d) 38 18 ls st M x := Rs_ite c38_3 rfl
theorem c38_6 : qx_code 38 6 = some (6, .aload_n 0, 7, 0, 0, 0) := by decide +kernel
theorem s38_6 {L : Nat} {xs : Nat → Int32} {d x : Nat} {M : qxM} {st : List Value} {a1 a2 : Option Value} {z : Nat} : Rs L xs (d) 38 6 [some (.ref z), a1, a2] st M x = Rs L xs (d) 38 7 [some (.ref z), a1, a2] (.ref z :: st) M x := Rs_next c38_6 rfl
theorem c38_7 : qx_code 38 7 = some (7, .getfield 25, 10, 2, 2, 171) := by decide +kernel
theorem s38_7 {L : Nat} {xs : Nat → Int32} {d x : Nat} {M : qxM} {st : List Value} {ls : qxL} {t : Nat} (hk : qx_kd t = 12) : Rs L xs (d) 38 7 ls (.ref t :: st) M x = Rs L xs (d) 38 10 ls (.int (M.1 t 2) :: st) M x := Rs_when (qx_kd_obj (k := 2) (by decide) hk) c38_7 rfl
theorem c38_10 : qx_code 38 10 = some (10, .iload_n 1, 11, 0, 0, 0) := by decide +kernel
theorem s38_10 {L : Nat} {xs : Nat → Int32} {d x : Nat} {M : qxM} {st : List Value} {a0 a2 : Option Value} {z : Int32} : Rs L xs (d) 38 10 [a0, some (.int z), a2] st M x = Rs L xs (d) 38 11 [a0, some (.int z), a2] (.int z :: st) M x := Rs_next c38_10 rfl
theorem c38_11 : qx_code 38 11 = some (11, .invokestatic 36, 14, 169, 1, 659) := by decide +kernel
theorem s38_11 {L : Nat} {xs : Nat → Int32} {d x : Nat} {M : qxM} {st : List Value} {ls : qxL} {z0 : Int32} (hs : st.length ≤ 4) : Rs L xs (d + 1) 38 11 ls (.int z0 :: st) M x = (Rs L xs d 169 0 [some (.int z0)] [] M 0).bind (qx_kn L xs (d + 1) 38 11 14 169 ls st x) := by
  have h1 : qx_act L xs (qx_rt 38) (11, .invokestatic 36, 14, 169, 1, 659) ls (.int z0 :: st) M = if 1 ≤ (.int z0 :: st).length ∧ st.length ≤ 4 then some (.inr (.inr (.inr (169, [.int z0], st)))) else none := rfl
  rw [if_pos ⟨by simp [List.length_cons]; try omega, hs⟩] at h1
  exact Rs_call c38_11 h1 rfl
theorem c38_14 : qx_code 38 14 = some (14, .ior, 15, 0, 0, 0) := by decide +kernel
theorem s38_14 {L : Nat} {xs : Nat → Int32} {d x : Nat} {M : qxM} {st : List Value} {ls : qxL} {z y : Int32} : Rs L xs (d) 38 14 ls (.int y :: .int z :: st) M x = Rs L xs (d) 38 15 ls (.int (z ||| y) :: st) M x := Rs_next c38_14 rfl
theorem c38_15 : qx_code 38 15 = some (15, .goto 14, 18, 29, 0, 0) := by decide +kernel
theorem s38_15 {L : Nat} {xs : Nat → Int32} {d x : Nat} {M : qxM} {st : List Value} {ls : qxL} : Rs L xs (d) 38 15 ls st M x = Rs L xs (d) 38 29 ls st M x := Rs_next c38_15 rfl
theorem c38_18 : qx_code 38 18 = some (18, .aload_n 0, 19, 0, 0, 0) := by decide +kernel
theorem s38_18 {L : Nat} {xs : Nat → Int32} {d x : Nat} {M : qxM} {st : List Value} {a1 a2 : Option Value} {z : Nat} : Rs L xs (d) 38 18 [some (.ref z), a1, a2] st M x = Rs L xs (d) 38 19 [some (.ref z), a1, a2] (.ref z :: st) M x := Rs_next c38_18 rfl
theorem c38_19 : qx_code 38 19 = some (19, .getfield 25, 22, 2, 2, 171) := by decide +kernel
theorem s38_19 {L : Nat} {xs : Nat → Int32} {d x : Nat} {M : qxM} {st : List Value} {ls : qxL} {t : Nat} (hk : qx_kd t = 12) : Rs L xs (d) 38 19 ls (.ref t :: st) M x = Rs L xs (d) 38 22 ls (.int (M.1 t 2) :: st) M x := Rs_when (qx_kd_obj (k := 2) (by decide) hk) c38_19 rfl
theorem c38_22 : qx_code 38 22 = some (22, .iload_n 1, 23, 0, 0, 0) := by decide +kernel
theorem s38_22 {L : Nat} {xs : Nat → Int32} {d x : Nat} {M : qxM} {st : List Value} {a0 a2 : Option Value} {z : Int32} : Rs L xs (d) 38 22 [a0, some (.int z), a2] st M x = Rs L xs (d) 38 23 [a0, some (.int z), a2] (.int z :: st) M x := Rs_next c38_22 rfl
theorem c38_23 : qx_code 38 23 = some (23, .invokestatic 36, 26, 169, 1, 659) := by decide +kernel
theorem s38_23 {L : Nat} {xs : Nat → Int32} {d x : Nat} {M : qxM} {st : List Value} {ls : qxL} {z0 : Int32} (hs : st.length ≤ 4) : Rs L xs (d + 1) 38 23 ls (.int z0 :: st) M x = (Rs L xs d 169 0 [some (.int z0)] [] M 0).bind (qx_kn L xs (d + 1) 38 23 26 169 ls st x) := by
  have h1 : qx_act L xs (qx_rt 38) (23, .invokestatic 36, 26, 169, 1, 659) ls (.int z0 :: st) M = if 1 ≤ (.int z0 :: st).length ∧ st.length ≤ 4 then some (.inr (.inr (.inr (169, [.int z0], st)))) else none := rfl
  rw [if_pos ⟨by simp [List.length_cons]; try omega, hs⟩] at h1
  exact Rs_call c38_23 h1 rfl
theorem c38_26 : qx_code 38 26 = some (26, .iconst (-1), 27, 0, 0, 0) := by decide +kernel
theorem s38_26 {L : Nat} {xs : Nat → Int32} {d x : Nat} {M : qxM} {st : List Value} {ls : qxL} : Rs L xs (d) 38 26 ls st M x = Rs L xs (d) 38 27 ls (.int (-1) :: st) M x := Rs_next c38_26 rfl
theorem c38_27 : qx_code 38 27 = some (27, .ixor, 28, 0, 0, 0) := by decide +kernel
theorem s38_27 {L : Nat} {xs : Nat → Int32} {d x : Nat} {M : qxM} {st : List Value} {ls : qxL} {z y : Int32} : Rs L xs (d) 38 27 ls (.int y :: .int z :: st) M x = Rs L xs (d) 38 28 ls (.int (z ^^^ y) :: st) M x := Rs_next c38_27 rfl
theorem c38_28 : qx_code 38 28 = some (28, .iand, 29, 0, 0, 0) := by decide +kernel
theorem s38_28 {L : Nat} {xs : Nat → Int32} {d x : Nat} {M : qxM} {st : List Value} {ls : qxL} {z y : Int32} : Rs L xs (d) 38 28 ls (.int y :: .int z :: st) M x = Rs L xs (d) 38 29 ls (.int (z &&& y) :: st) M x := Rs_next c38_28 rfl
theorem c38_29 : qx_code 38 29 = some (29, .putfield 25, 32, 2, 2, 171) := by decide +kernel
theorem s38_29 {L : Nat} {xs : Nat → Int32} {d x : Nat} {M : qxM} {st : List Value} {ls : qxL} {t : Nat} {z : Int32} (hk : qx_kd t = 12) : Rs L xs (d) 38 29 ls (.int z :: .ref t :: st) M x = Rs L xs (d) 38 32 ls st (qx_up M t 2 z) x := Rs_when (cnd := qx_sh t = some (.inl 2) ∧ qx_fo 2 2 = none ∧ (qx_bf 2 2 = true → z = 0 ∨ z = 1)) ⟨qx_kd_obj (k := 2) (by decide) hk, rfl, fun h => nomatch h⟩ c38_29 rfl
theorem c38_32 : qx_code 38 32 = some (32, .return_, 33, 0, 0, 0) := by decide +kernel
theorem s38_32 {L : Nat} {xs : Nat → Int32} {d x : Nat} {M : qxM} {ls : qxL} : Rs L xs (d) 38 32 ls [] M x = some (.inl none, M, x) := Rs_ret c38_32 rfl
theorem c39_0 : qx_code 39 0 = some (0, .iload_n 1, 1, 0, 0, 0) := by decide +kernel
theorem s39_0 {L : Nat} {xs : Nat → Int32} {d x : Nat} {M : qxM} {st : List Value} {a0 : Option Value} {z : Int32} : Rs L xs (d) 39 0 [a0, some (.int z)] st M x = Rs L xs (d) 39 1 [a0, some (.int z)] (.int z :: st) M x := Rs_next c39_0 rfl
theorem c39_1 : qx_code 39 1 = some (1, .ifCond .lt 21, 4, 22, 0, 0) := by decide +kernel
theorem s39_1 {L : Nat} {xs : Nat → Int32} {d x : Nat} {M : qxM} {st : List Value} {ls : qxL} {z : Int32} : Rs L xs (d) 39 1 ls (.int z :: st) M x = if z < 0 then Rs L xs (d) 39 22 ls st M x else Rs L xs (d) 39 4 ls st M x := Rs_ite c39_1 rfl
theorem c39_4 : qx_code 39 4 = some (4, .iload_n 1, 5, 0, 0, 0) := by decide +kernel
theorem s39_4 {L : Nat} {xs : Nat → Int32} {d x : Nat} {M : qxM} {st : List Value} {a0 : Option Value} {z : Int32} : Rs L xs (d) 39 4 [a0, some (.int z)] st M x = Rs L xs (d) 39 5 [a0, some (.int z)] (.int z :: st) M x := Rs_next c39_4 rfl
theorem c39_5 : qx_code 39 5 = some (5, .aload_n 0, 6, 0, 0, 0) := by decide +kernel
theorem s39_5 {L : Nat} {xs : Nat → Int32} {d x : Nat} {M : qxM} {st : List Value} {a1 : Option Value} {z : Nat} : Rs L xs (d) 39 5 [some (.ref z), a1] st M x = Rs L xs (d) 39 6 [some (.ref z), a1] (.ref z :: st) M x := Rs_next c39_5 rfl
theorem c39_6 : qx_code 39 6 = some (6, .getfield 9, 9, 2, 3, 173) := by decide +kernel
theorem s39_6 {L : Nat} {xs : Nat → Int32} {d x : Nat} {M : qxM} {st : List Value} {ls : qxL} {t : Nat} (hk : qx_kd t = 12) : Rs L xs (d) 39 6 ls (.ref t :: st) M x = Rs L xs (d) 39 9 ls (.ref (t + 1) :: st) M x := Rs_when (qx_kd_obj (k := 2) (by decide) hk) c39_6 rfl
theorem c39_9 : qx_code 39 9 = some (9, .arraylength, 10, 0, 0, 0) := by decide +kernel
theorem s39_9 {L : Nat} {xs : Nat → Int32} {d x : Nat} {M : qxM} {st : List Value} {ls : qxL} {t : Nat} (hk : qx_kd t < 6) : Rs L xs (d) 39 9 ls (.ref t :: st) M x = Rs L xs (d) 39 10 ls (.int (nI (qx_ln t)) :: st) M x := by
  have h1 := qx_kd_row hk rfl
  exact Rs_next c39_9 (by unfold qx_act; dsimp only; rw [h1]; rfl)
theorem c39_10 : qx_code 39 10 = some (10, .if_icmp .ge 12, 13, 22, 0, 0) := by decide +kernel
theorem s39_10 {L : Nat} {xs : Nat → Int32} {d x : Nat} {M : qxM} {st : List Value} {ls : qxL} {z y : Int32} : Rs L xs (d) 39 10 ls (.int y :: .int z :: st) M x = if y ≤ z then Rs L xs (d) 39 22 ls st M x else Rs L xs (d) 39 13 ls st M x := Rs_ite c39_10 rfl
theorem c39_13 : qx_code 39 13 = some (13, .aload_n 0, 14, 0, 0, 0) := by decide +kernel
theorem s39_13 {L : Nat} {xs : Nat → Int32} {d x : Nat} {M : qxM} {st : List Value} {a1 : Option Value} {z : Nat} : Rs L xs (d) 39 13 [some (.ref z), a1] st M x = Rs L xs (d) 39 14 [some (.ref z), a1] (.ref z :: st) M x := Rs_next c39_13 rfl
theorem c39_14 : qx_code 39 14 = some (14, .getfield 9, 17, 2, 3, 173) := by decide +kernel
theorem s39_14 {L : Nat} {xs : Nat → Int32} {d x : Nat} {M : qxM} {st : List Value} {ls : qxL} {t : Nat} (hk : qx_kd t = 12) : Rs L xs (d) 39 14 ls (.ref t :: st) M x = Rs L xs (d) 39 17 ls (.ref (t + 1) :: st) M x := Rs_when (qx_kd_obj (k := 2) (by decide) hk) c39_14 rfl
theorem c39_17 : qx_code 39 17 = some (17, .iload_n 1, 18, 0, 0, 0) := by decide +kernel
theorem s39_17 {L : Nat} {xs : Nat → Int32} {d x : Nat} {M : qxM} {st : List Value} {a0 : Option Value} {z : Int32} : Rs L xs (d) 39 17 [a0, some (.int z)] st M x = Rs L xs (d) 39 18 [a0, some (.int z)] (.int z :: st) M x := Rs_next c39_17 rfl
theorem c39_18 : qx_code 39 18 = some (18, .iaload, 19, 0, 0, 0) := by decide +kernel
theorem s39_18 {L : Nat} {xs : Nat → Int32} {d x : Nat} {M : qxM} {st : List Value} {ls : qxL} {t : Nat} {j : Int32} (hk : qx_kd t = 0) (hj : qx_ib j (qx_ln t) = true) : Rs L xs (d) 39 18 ls (.int j :: .ref t :: st) M x = Rs L xs (d) 39 19 ls (.int (M.1 t j.toNatClampNeg) :: st) M x := by
  have h1 := qx_kd_row (k := 0) (by decide) hk
  exact Rs_unless (qx_ib_not hj) c39_18 (by unfold qx_act; dsimp only; rw [h1]; rfl)
theorem c39_19 : qx_code 39 19 = some (19, .goto 4, 22, 23, 0, 0) := by decide +kernel
theorem s39_19 {L : Nat} {xs : Nat → Int32} {d x : Nat} {M : qxM} {st : List Value} {ls : qxL} : Rs L xs (d) 39 19 ls st M x = Rs L xs (d) 39 23 ls st M x := Rs_next c39_19 rfl
theorem c39_22 : qx_code 39 22 = some (22, .iconst 0, 23, 0, 0, 0) := by decide +kernel
theorem s39_22 {L : Nat} {xs : Nat → Int32} {d x : Nat} {M : qxM} {st : List Value} {ls : qxL} : Rs L xs (d) 39 22 ls st M x = Rs L xs (d) 39 23 ls (.int (nI 0) :: st) M x := Rs_next c39_22 rfl
theorem c39_23 : qx_code 39 23 = some (23, .ireturn, 24, 0, 0, 0) := by decide +kernel
theorem s39_23 {L : Nat} {xs : Nat → Int32} {d x : Nat} {M : qxM} {ls : qxL} {z : Int32} : Rs L xs (d) 39 23 ls [.int z] M x = some (.inl (some (.int z)), M, x) := Rs_ret c39_23 rfl
theorem c40_0 : qx_code 40 0 = some (0, .aload_n 0, 1, 0, 0, 0) := by decide +kernel
theorem s40_0 {L : Nat} {xs : Nat → Int32} {d x : Nat} {M : qxM} {st : List Value} {a1 a2 a3 : Option Value} {z : Nat} : Rs L xs (d) 40 0 [some (.ref z), a1, a2, a3] st M x = Rs L xs (d) 40 1 [some (.ref z), a1, a2, a3] (.ref z :: st) M x := Rs_next c40_0 rfl
theorem c40_1 : qx_code 40 1 = some (1, .getfield 9, 4, 2, 3, 173) := by decide +kernel
theorem s40_1 {L : Nat} {xs : Nat → Int32} {d x : Nat} {M : qxM} {st : List Value} {ls : qxL} {t : Nat} (hk : qx_kd t = 12) : Rs L xs (d) 40 1 ls (.ref t :: st) M x = Rs L xs (d) 40 4 ls (.ref (t + 1) :: st) M x := Rs_when (qx_kd_obj (k := 2) (by decide) hk) c40_1 rfl
theorem c40_4 : qx_code 40 4 = some (4, .iload_n 1, 5, 0, 0, 0) := by decide +kernel
theorem s40_4 {L : Nat} {xs : Nat → Int32} {d x : Nat} {M : qxM} {st : List Value} {a0 a2 a3 : Option Value} {z : Int32} : Rs L xs (d) 40 4 [a0, some (.int z), a2, a3] st M x = Rs L xs (d) 40 5 [a0, some (.int z), a2, a3] (.int z :: st) M x := Rs_next c40_4 rfl
theorem c40_5 : qx_code 40 5 = some (5, .iload_n 3, 6, 0, 0, 0) := by decide +kernel
theorem s40_5 {L : Nat} {xs : Nat → Int32} {d x : Nat} {M : qxM} {st : List Value} {a0 a1 a2 : Option Value} {z : Int32} : Rs L xs (d) 40 5 [a0, a1, a2, some (.int z)] st M x = Rs L xs (d) 40 6 [a0, a1, a2, some (.int z)] (.int z :: st) M x := Rs_next c40_5 rfl
theorem c40_6 : qx_code 40 6 = some (6, .ifCond .eq 16, 9, 22, 0, 0) := by decide +kernel
theorem s40_6 {L : Nat} {xs : Nat → Int32} {d x : Nat} {M : qxM} {st : List Value} {ls : qxL} {z : Int32} : Rs L xs (d) 40 6 ls (.int z :: st) M x = if z = 0 then Rs L xs (d) 40 22 ls st M x else Rs L xs (d) 40 9 ls st M x := Rs_ite c40_6 rfl
theorem c40_9 : qx_code 40 9 = some (9, .aload_n 0, 10, 0, 0, 0) := by decide +kernel
theorem s40_9 {L : Nat} {xs : Nat → Int32} {d x : Nat} {M : qxM} {st : List Value} {a1 a2 a3 : Option Value} {z : Nat} : Rs L xs (d) 40 9 [some (.ref z), a1, a2, a3] st M x = Rs L xs (d) 40 10 [some (.ref z), a1, a2, a3] (.ref z :: st) M x := Rs_next c40_9 rfl
theorem c40_10 : qx_code 40 10 = some (10, .iload_n 1, 11, 0, 0, 0) := by decide +kernel
theorem s40_10 {L : Nat} {xs : Nat → Int32} {d x : Nat} {M : qxM} {st : List Value} {a0 a2 a3 : Option Value} {z : Int32} : Rs L xs (d) 40 10 [a0, some (.int z), a2, a3] st M x = Rs L xs (d) 40 11 [a0, some (.int z), a2, a3] (.int z :: st) M x := Rs_next c40_10 rfl
theorem c40_11 : qx_code 40 11 = some (11, .invokevirtual 44, 14, 39, 2, 647) := by decide +kernel
theorem s40_11 {L : Nat} {xs : Nat → Int32} {d x : Nat} {M : qxM} {st : List Value} {ls : qxL} {t : Nat} {z0 : Int32} (hk : qx_kd t = 12) (hs : st.length ≤ 4) : Rs L xs (d + 1) 40 11 ls (.int z0 :: .ref t :: st) M x = (Rs L xs d 39 0 [some (.ref t), some (.int z0)] [] M 0).bind (qx_kn L xs (d + 1) 40 11 14 39 ls st x) := by
  have h1 : qx_act L xs (qx_rt 40) (11, .invokevirtual 44, 14, 39, 2, 647) ls (.int z0 :: .ref t :: st) M = if 2 ≤ (.int z0 :: .ref t :: st).length ∧ st.length ≤ 4 then some (.inr (.inr (.inr (39, [.ref t, .int z0], st)))) else none := rfl
  rw [if_pos ⟨by simp [List.length_cons]; try omega, hs⟩] at h1
  have h2 := qx_kd_obj (k := 2) (by decide) hk
  exact Rs_call c40_11 h1 (by rw [show qx_args 39 [.ref t, .int z0] = decide (qx_sh t = some (.inl 2)) from rfl]; exact decide_eq_true h2)
theorem c40_14 : qx_code 40 14 = some (14, .iload_n 2, 15, 0, 0, 0) := by decide +kernel
theorem s40_14 {L : Nat} {xs : Nat → Int32} {d x : Nat} {M : qxM} {st : List Value} {a0 a1 a3 : Option Value} {z : Int32} : Rs L xs (d) 40 14 [a0, a1, some (.int z), a3] st M x = Rs L xs (d) 40 15 [a0, a1, some (.int z), a3] (.int z :: st) M x := Rs_next c40_14 rfl
theorem c40_15 : qx_code 40 15 = some (15, .invokestatic 36, 18, 169, 1, 659) := by decide +kernel
theorem s40_15 {L : Nat} {xs : Nat → Int32} {d x : Nat} {M : qxM} {st : List Value} {ls : qxL} {z0 : Int32} (hs : st.length ≤ 4) : Rs L xs (d + 1) 40 15 ls (.int z0 :: st) M x = (Rs L xs d 169 0 [some (.int z0)] [] M 0).bind (qx_kn L xs (d + 1) 40 15 18 169 ls st x) := by
  have h1 : qx_act L xs (qx_rt 40) (15, .invokestatic 36, 18, 169, 1, 659) ls (.int z0 :: st) M = if 1 ≤ (.int z0 :: st).length ∧ st.length ≤ 4 then some (.inr (.inr (.inr (169, [.int z0], st)))) else none := rfl
  rw [if_pos ⟨by simp [List.length_cons]; try omega, hs⟩] at h1
  exact Rs_call c40_15 h1 rfl
theorem c40_18 : qx_code 40 18 = some (18, .ior, 19, 0, 0, 0) := by decide +kernel
theorem s40_18 {L : Nat} {xs : Nat → Int32} {d x : Nat} {M : qxM} {st : List Value} {ls : qxL} {z y : Int32} : Rs L xs (d) 40 18 ls (.int y :: .int z :: st) M x = Rs L xs (d) 40 19 ls (.int (z ||| y) :: st) M x := Rs_next c40_18 rfl
theorem c40_19 : qx_code 40 19 = some (19, .goto 15, 22, 34, 0, 0) := by decide +kernel
theorem s40_19 {L : Nat} {xs : Nat → Int32} {d x : Nat} {M : qxM} {st : List Value} {ls : qxL} : Rs L xs (d) 40 19 ls st M x = Rs L xs (d) 40 34 ls st M x := Rs_next c40_19 rfl
theorem c40_22 : qx_code 40 22 = some (22, .aload_n 0, 23, 0, 0, 0) := by decide +kernel
theorem s40_22 {L : Nat} {xs : Nat → Int32} {d x : Nat} {M : qxM} {st : List Value} {a1 a2 a3 : Option Value} {z : Nat} : Rs L xs (d) 40 22 [some (.ref z), a1, a2, a3] st M x = Rs L xs (d) 40 23 [some (.ref z), a1, a2, a3] (.ref z :: st) M x := Rs_next c40_22 rfl
theorem c40_23 : qx_code 40 23 = some (23, .iload_n 1, 24, 0, 0, 0) := by decide +kernel
theorem s40_23 {L : Nat} {xs : Nat → Int32} {d x : Nat} {M : qxM} {st : List Value} {a0 a2 a3 : Option Value} {z : Int32} : Rs L xs (d) 40 23 [a0, some (.int z), a2, a3] st M x = Rs L xs (d) 40 24 [a0, some (.int z), a2, a3] (.int z :: st) M x := Rs_next c40_23 rfl
theorem c40_24 : qx_code 40 24 = some (24, .invokevirtual 44, 27, 39, 2, 647) := by decide +kernel
theorem s40_24 {L : Nat} {xs : Nat → Int32} {d x : Nat} {M : qxM} {st : List Value} {ls : qxL} {t : Nat} {z0 : Int32} (hk : qx_kd t = 12) (hs : st.length ≤ 4) : Rs L xs (d + 1) 40 24 ls (.int z0 :: .ref t :: st) M x = (Rs L xs d 39 0 [some (.ref t), some (.int z0)] [] M 0).bind (qx_kn L xs (d + 1) 40 24 27 39 ls st x) := by
  have h1 : qx_act L xs (qx_rt 40) (24, .invokevirtual 44, 27, 39, 2, 647) ls (.int z0 :: .ref t :: st) M = if 2 ≤ (.int z0 :: .ref t :: st).length ∧ st.length ≤ 4 then some (.inr (.inr (.inr (39, [.ref t, .int z0], st)))) else none := rfl
  rw [if_pos ⟨by simp [List.length_cons]; try omega, hs⟩] at h1
  have h2 := qx_kd_obj (k := 2) (by decide) hk
  exact Rs_call c40_24 h1 (by rw [show qx_args 39 [.ref t, .int z0] = decide (qx_sh t = some (.inl 2)) from rfl]; exact decide_eq_true h2)
theorem c40_27 : qx_code 40 27 = some (27, .iload_n 2, 28, 0, 0, 0) := by decide +kernel
theorem s40_27 {L : Nat} {xs : Nat → Int32} {d x : Nat} {M : qxM} {st : List Value} {a0 a1 a3 : Option Value} {z : Int32} : Rs L xs (d) 40 27 [a0, a1, some (.int z), a3] st M x = Rs L xs (d) 40 28 [a0, a1, some (.int z), a3] (.int z :: st) M x := Rs_next c40_27 rfl
theorem c40_28 : qx_code 40 28 = some (28, .invokestatic 36, 31, 169, 1, 659) := by decide +kernel
theorem s40_28 {L : Nat} {xs : Nat → Int32} {d x : Nat} {M : qxM} {st : List Value} {ls : qxL} {z0 : Int32} (hs : st.length ≤ 4) : Rs L xs (d + 1) 40 28 ls (.int z0 :: st) M x = (Rs L xs d 169 0 [some (.int z0)] [] M 0).bind (qx_kn L xs (d + 1) 40 28 31 169 ls st x) := by
  have h1 : qx_act L xs (qx_rt 40) (28, .invokestatic 36, 31, 169, 1, 659) ls (.int z0 :: st) M = if 1 ≤ (.int z0 :: st).length ∧ st.length ≤ 4 then some (.inr (.inr (.inr (169, [.int z0], st)))) else none := rfl
  rw [if_pos ⟨by simp [List.length_cons]; try omega, hs⟩] at h1
  exact Rs_call c40_28 h1 rfl
theorem c40_31 : qx_code 40 31 = some (31, .iconst (-1), 32, 0, 0, 0) := by decide +kernel
theorem s40_31 {L : Nat} {xs : Nat → Int32} {d x : Nat} {M : qxM} {st : List Value} {ls : qxL} : Rs L xs (d) 40 31 ls st M x = Rs L xs (d) 40 32 ls (.int (-1) :: st) M x := Rs_next c40_31 rfl
theorem c40_32 : qx_code 40 32 = some (32, .ixor, 33, 0, 0, 0) := by decide +kernel
theorem s40_32 {L : Nat} {xs : Nat → Int32} {d x : Nat} {M : qxM} {st : List Value} {ls : qxL} {z y : Int32} : Rs L xs (d) 40 32 ls (.int y :: .int z :: st) M x = Rs L xs (d) 40 33 ls (.int (z ^^^ y) :: st) M x := Rs_next c40_32 rfl
theorem c40_33 : qx_code 40 33 = some (33, .iand, 34, 0, 0, 0) := by decide +kernel
theorem s40_33 {L : Nat} {xs : Nat → Int32} {d x : Nat} {M : qxM} {st : List Value} {ls : qxL} {z y : Int32} : Rs L xs (d) 40 33 ls (.int y :: .int z :: st) M x = Rs L xs (d) 40 34 ls (.int (z &&& y) :: st) M x := Rs_next c40_33 rfl
theorem c40_34 : qx_code 40 34 = some (34, .invokestatic 47, 37, 174, 3, 666) := by decide +kernel
theorem s40_34 {L : Nat} {xs : Nat → Int32} {d x : Nat} {M : qxM} {st : List Value} {ls : qxL} {z0 : Nat} {z1 : Int32} {z2 : Int32} (hs : st.length ≤ 4) : Rs L xs (d + 1) 40 34 ls (.int z2 :: .int z1 :: .ref z0 :: st) M x = (Rs L xs d 174 0 [some (.ref z0), some (.int z1), some (.int z2)] [] M 0).bind (qx_kn L xs (d + 1) 40 34 37 174 ls st x) := by
  have h1 : qx_act L xs (qx_rt 40) (34, .invokestatic 47, 37, 174, 3, 666) ls (.int z2 :: .int z1 :: .ref z0 :: st) M = if 3 ≤ (.int z2 :: .int z1 :: .ref z0 :: st).length ∧ st.length ≤ 4 then some (.inr (.inr (.inr (174, [.ref z0, .int z1, .int z2], st)))) else none := rfl
  rw [if_pos ⟨by simp [List.length_cons]; try omega, hs⟩] at h1
  exact Rs_call c40_34 h1 rfl
theorem c40_37 : qx_code 40 37 = some (37, .aload_n 0, 38, 0, 0, 0) := by decide +kernel
theorem s40_37 {L : Nat} {xs : Nat → Int32} {d x : Nat} {M : qxM} {st : List Value} {a1 a2 a3 : Option Value} {z : Nat} : Rs L xs (d) 40 37 [some (.ref z), a1, a2, a3] st M x = Rs L xs (d) 40 38 [some (.ref z), a1, a2, a3] (.ref z :: st) M x := Rs_next c40_37 rfl
theorem c40_38 : qx_code 40 38 = some (38, .getfield 9, 41, 2, 3, 173) := by decide +kernel
theorem s40_38 {L : Nat} {xs : Nat → Int32} {d x : Nat} {M : qxM} {st : List Value} {ls : qxL} {t : Nat} (hk : qx_kd t = 12) : Rs L xs (d) 40 38 ls (.ref t :: st) M x = Rs L xs (d) 40 41 ls (.ref (t + 1) :: st) M x := Rs_when (qx_kd_obj (k := 2) (by decide) hk) c40_38 rfl
theorem c40_41 : qx_code 40 41 = some (41, .iload_n 2, 42, 0, 0, 0) := by decide +kernel
theorem s40_41 {L : Nat} {xs : Nat → Int32} {d x : Nat} {M : qxM} {st : List Value} {a0 a1 a3 : Option Value} {z : Int32} : Rs L xs (d) 40 41 [a0, a1, some (.int z), a3] st M x = Rs L xs (d) 40 42 [a0, a1, some (.int z), a3] (.int z :: st) M x := Rs_next c40_41 rfl
theorem c40_42 : qx_code 40 42 = some (42, .iload_n 3, 43, 0, 0, 0) := by decide +kernel
theorem s40_42 {L : Nat} {xs : Nat → Int32} {d x : Nat} {M : qxM} {st : List Value} {a0 a1 a2 : Option Value} {z : Int32} : Rs L xs (d) 40 42 [a0, a1, a2, some (.int z)] st M x = Rs L xs (d) 40 43 [a0, a1, a2, some (.int z)] (.int z :: st) M x := Rs_next c40_42 rfl
theorem c40_43 : qx_code 40 43 = some (43, .ifCond .eq 16, 46, 59, 0, 0) := by decide +kernel
theorem s40_43 {L : Nat} {xs : Nat → Int32} {d x : Nat} {M : qxM} {st : List Value} {ls : qxL} {z : Int32} : Rs L xs (d) 40 43 ls (.int z :: st) M x = if z = 0 then Rs L xs (d) 40 59 ls st M x else Rs L xs (d) 40 46 ls st M x := Rs_ite c40_43 rfl
theorem c40_46 : qx_code 40 46 = some (46, .aload_n 0, 47, 0, 0, 0) := by decide +kernel
theorem s40_46 {L : Nat} {xs : Nat → Int32} {d x : Nat} {M : qxM} {st : List Value} {a1 a2 a3 : Option Value} {z : Nat} : Rs L xs (d) 40 46 [some (.ref z), a1, a2, a3] st M x = Rs L xs (d) 40 47 [some (.ref z), a1, a2, a3] (.ref z :: st) M x := Rs_next c40_46 rfl
theorem c40_47 : qx_code 40 47 = some (47, .iload_n 2, 48, 0, 0, 0) := by decide +kernel
theorem s40_47 {L : Nat} {xs : Nat → Int32} {d x : Nat} {M : qxM} {st : List Value} {a0 a1 a3 : Option Value} {z : Int32} : Rs L xs (d) 40 47 [a0, a1, some (.int z), a3] st M x = Rs L xs (d) 40 48 [a0, a1, some (.int z), a3] (.int z :: st) M x := Rs_next c40_47 rfl
theorem c40_48 : qx_code 40 48 = some (48, .invokevirtual 44, 51, 39, 2, 647) := by decide +kernel
theorem s40_48 {L : Nat} {xs : Nat → Int32} {d x : Nat} {M : qxM} {st : List Value} {ls : qxL} {t : Nat} {z0 : Int32} (hk : qx_kd t = 12) (hs : st.length ≤ 4) : Rs L xs (d + 1) 40 48 ls (.int z0 :: .ref t :: st) M x = (Rs L xs d 39 0 [some (.ref t), some (.int z0)] [] M 0).bind (qx_kn L xs (d + 1) 40 48 51 39 ls st x) := by
  have h1 : qx_act L xs (qx_rt 40) (48, .invokevirtual 44, 51, 39, 2, 647) ls (.int z0 :: .ref t :: st) M = if 2 ≤ (.int z0 :: .ref t :: st).length ∧ st.length ≤ 4 then some (.inr (.inr (.inr (39, [.ref t, .int z0], st)))) else none := rfl
  rw [if_pos ⟨by simp [List.length_cons]; try omega, hs⟩] at h1
  have h2 := qx_kd_obj (k := 2) (by decide) hk
  exact Rs_call c40_48 h1 (by rw [show qx_args 39 [.ref t, .int z0] = decide (qx_sh t = some (.inl 2)) from rfl]; exact decide_eq_true h2)
theorem c40_51 : qx_code 40 51 = some (51, .iload_n 1, 52, 0, 0, 0) := by decide +kernel
theorem s40_51 {L : Nat} {xs : Nat → Int32} {d x : Nat} {M : qxM} {st : List Value} {a0 a2 a3 : Option Value} {z : Int32} : Rs L xs (d) 40 51 [a0, some (.int z), a2, a3] st M x = Rs L xs (d) 40 52 [a0, some (.int z), a2, a3] (.int z :: st) M x := Rs_next c40_51 rfl
theorem c40_52 : qx_code 40 52 = some (52, .invokestatic 36, 55, 169, 1, 659) := by decide +kernel
theorem s40_52 {L : Nat} {xs : Nat → Int32} {d x : Nat} {M : qxM} {st : List Value} {ls : qxL} {z0 : Int32} (hs : st.length ≤ 4) : Rs L xs (d + 1) 40 52 ls (.int z0 :: st) M x = (Rs L xs d 169 0 [some (.int z0)] [] M 0).bind (qx_kn L xs (d + 1) 40 52 55 169 ls st x) := by
  have h1 : qx_act L xs (qx_rt 40) (52, .invokestatic 36, 55, 169, 1, 659) ls (.int z0 :: st) M = if 1 ≤ (.int z0 :: st).length ∧ st.length ≤ 4 then some (.inr (.inr (.inr (169, [.int z0], st)))) else none := rfl
  rw [if_pos ⟨by simp [List.length_cons]; try omega, hs⟩] at h1
  exact Rs_call c40_52 h1 rfl
theorem c40_55 : qx_code 40 55 = some (55, .ior, 56, 0, 0, 0) := by decide +kernel
theorem s40_55 {L : Nat} {xs : Nat → Int32} {d x : Nat} {M : qxM} {st : List Value} {ls : qxL} {z y : Int32} : Rs L xs (d) 40 55 ls (.int y :: .int z :: st) M x = Rs L xs (d) 40 56 ls (.int (z ||| y) :: st) M x := Rs_next c40_55 rfl
theorem c40_56 : qx_code 40 56 = some (56, .goto 15, 59, 71, 0, 0) := by decide +kernel
theorem s40_56 {L : Nat} {xs : Nat → Int32} {d x : Nat} {M : qxM} {st : List Value} {ls : qxL} : Rs L xs (d) 40 56 ls st M x = Rs L xs (d) 40 71 ls st M x := Rs_next c40_56 rfl
theorem c40_59 : qx_code 40 59 = some (59, .aload_n 0, 60, 0, 0, 0) := by decide +kernel
theorem s40_59 {L : Nat} {xs : Nat → Int32} {d x : Nat} {M : qxM} {st : List Value} {a1 a2 a3 : Option Value} {z : Nat} : Rs L xs (d) 40 59 [some (.ref z), a1, a2, a3] st M x = Rs L xs (d) 40 60 [some (.ref z), a1, a2, a3] (.ref z :: st) M x := Rs_next c40_59 rfl
theorem c40_60 : qx_code 40 60 = some (60, .iload_n 2, 61, 0, 0, 0) := by decide +kernel
theorem s40_60 {L : Nat} {xs : Nat → Int32} {d x : Nat} {M : qxM} {st : List Value} {a0 a1 a3 : Option Value} {z : Int32} : Rs L xs (d) 40 60 [a0, a1, some (.int z), a3] st M x = Rs L xs (d) 40 61 [a0, a1, some (.int z), a3] (.int z :: st) M x := Rs_next c40_60 rfl
theorem c40_61 : qx_code 40 61 = some (61, .invokevirtual 44, 64, 39, 2, 647) := by decide +kernel
theorem s40_61 {L : Nat} {xs : Nat → Int32} {d x : Nat} {M : qxM} {st : List Value} {ls : qxL} {t : Nat} {z0 : Int32} (hk : qx_kd t = 12) (hs : st.length ≤ 4) : Rs L xs (d + 1) 40 61 ls (.int z0 :: .ref t :: st) M x = (Rs L xs d 39 0 [some (.ref t), some (.int z0)] [] M 0).bind (qx_kn L xs (d + 1) 40 61 64 39 ls st x) := by
  have h1 : qx_act L xs (qx_rt 40) (61, .invokevirtual 44, 64, 39, 2, 647) ls (.int z0 :: .ref t :: st) M = if 2 ≤ (.int z0 :: .ref t :: st).length ∧ st.length ≤ 4 then some (.inr (.inr (.inr (39, [.ref t, .int z0], st)))) else none := rfl
  rw [if_pos ⟨by simp [List.length_cons]; try omega, hs⟩] at h1
  have h2 := qx_kd_obj (k := 2) (by decide) hk
  exact Rs_call c40_61 h1 (by rw [show qx_args 39 [.ref t, .int z0] = decide (qx_sh t = some (.inl 2)) from rfl]; exact decide_eq_true h2)
theorem c40_64 : qx_code 40 64 = some (64, .iload_n 1, 65, 0, 0, 0) := by decide +kernel
theorem s40_64 {L : Nat} {xs : Nat → Int32} {d x : Nat} {M : qxM} {st : List Value} {a0 a2 a3 : Option Value} {z : Int32} : Rs L xs (d) 40 64 [a0, some (.int z), a2, a3] st M x = Rs L xs (d) 40 65 [a0, some (.int z), a2, a3] (.int z :: st) M x := Rs_next c40_64 rfl
theorem c40_65 : qx_code 40 65 = some (65, .invokestatic 36, 68, 169, 1, 659) := by decide +kernel
theorem s40_65 {L : Nat} {xs : Nat → Int32} {d x : Nat} {M : qxM} {st : List Value} {ls : qxL} {z0 : Int32} (hs : st.length ≤ 4) : Rs L xs (d + 1) 40 65 ls (.int z0 :: st) M x = (Rs L xs d 169 0 [some (.int z0)] [] M 0).bind (qx_kn L xs (d + 1) 40 65 68 169 ls st x) := by
  have h1 : qx_act L xs (qx_rt 40) (65, .invokestatic 36, 68, 169, 1, 659) ls (.int z0 :: st) M = if 1 ≤ (.int z0 :: st).length ∧ st.length ≤ 4 then some (.inr (.inr (.inr (169, [.int z0], st)))) else none := rfl
  rw [if_pos ⟨by simp [List.length_cons]; try omega, hs⟩] at h1
  exact Rs_call c40_65 h1 rfl
theorem c40_68 : qx_code 40 68 = some (68, .iconst (-1), 69, 0, 0, 0) := by decide +kernel
theorem s40_68 {L : Nat} {xs : Nat → Int32} {d x : Nat} {M : qxM} {st : List Value} {ls : qxL} : Rs L xs (d) 40 68 ls st M x = Rs L xs (d) 40 69 ls (.int (-1) :: st) M x := Rs_next c40_68 rfl
theorem c40_69 : qx_code 40 69 = some (69, .ixor, 70, 0, 0, 0) := by decide +kernel
theorem s40_69 {L : Nat} {xs : Nat → Int32} {d x : Nat} {M : qxM} {st : List Value} {ls : qxL} {z y : Int32} : Rs L xs (d) 40 69 ls (.int y :: .int z :: st) M x = Rs L xs (d) 40 70 ls (.int (z ^^^ y) :: st) M x := Rs_next c40_69 rfl
theorem c40_70 : qx_code 40 70 = some (70, .iand, 71, 0, 0, 0) := by decide +kernel
theorem s40_70 {L : Nat} {xs : Nat → Int32} {d x : Nat} {M : qxM} {st : List Value} {ls : qxL} {z y : Int32} : Rs L xs (d) 40 70 ls (.int y :: .int z :: st) M x = Rs L xs (d) 40 71 ls (.int (z &&& y) :: st) M x := Rs_next c40_70 rfl
theorem c40_71 : qx_code 40 71 = some (71, .invokestatic 47, 74, 174, 3, 666) := by decide +kernel
theorem s40_71 {L : Nat} {xs : Nat → Int32} {d x : Nat} {M : qxM} {st : List Value} {ls : qxL} {z0 : Nat} {z1 : Int32} {z2 : Int32} (hs : st.length ≤ 4) : Rs L xs (d + 1) 40 71 ls (.int z2 :: .int z1 :: .ref z0 :: st) M x = (Rs L xs d 174 0 [some (.ref z0), some (.int z1), some (.int z2)] [] M 0).bind (qx_kn L xs (d + 1) 40 71 74 174 ls st x) := by
  have h1 : qx_act L xs (qx_rt 40) (71, .invokestatic 47, 74, 174, 3, 666) ls (.int z2 :: .int z1 :: .ref z0 :: st) M = if 3 ≤ (.int z2 :: .int z1 :: .ref z0 :: st).length ∧ st.length ≤ 4 then some (.inr (.inr (.inr (174, [.ref z0, .int z1, .int z2], st)))) else none := rfl
  rw [if_pos ⟨by simp [List.length_cons]; try omega, hs⟩] at h1
  exact Rs_call c40_71 h1 rfl
theorem c40_74 : qx_code 40 74 = some (74, .return_, 75, 0, 0, 0) := by decide +kernel
theorem s40_74 {L : Nat} {xs : Nat → Int32} {d x : Nat} {M : qxM} {ls : qxL} : Rs L xs (d) 40 74 ls [] M x = some (.inl none, M, x) := Rs_ret c40_74 rfl
theorem c41_0 : qx_code 41 0 = some (0, .aload_n 0, 1, 0, 0, 0) := by decide +kernel
theorem s41_0 {L : Nat} {xs : Nat → Int32} {d x : Nat} {M : qxM} {st : List Value} {a1 a2 : Option Value} {z : Nat} : Rs L xs (d) 41 0 [some (.ref z), a1, a2] st M x = Rs L xs (d) 41 1 [some (.ref z), a1, a2] (.ref z :: st) M x := Rs_next c41_0 rfl
theorem c41_1 : qx_code 41 1 = some (1, .getfield 22, 4, 2, 1, 168) := by decide +kernel
theorem s41_1 {L : Nat} {xs : Nat → Int32} {d x : Nat} {M : qxM} {st : List Value} {ls : qxL} {t : Nat} (hk : qx_kd t = 12) : Rs L xs (d) 41 1 ls (.ref t :: st) M x = Rs L xs (d) 41 4 ls (.int (M.1 t 1) :: st) M x := Rs_when (qx_kd_obj (k := 2) (by decide) hk) c41_1 rfl
theorem c41_4 : qx_code 41 4 = some (4, .ifCond .eq 37, 7, 41, 0, 0) := by decide +kernel
theorem s41_4 {L : Nat} {xs : Nat → Int32} {d x : Nat} {M : qxM} {st : List Value} {ls : qxL} {z : Int32} : Rs L xs (d) 41 4 ls (.int z :: st) M x = if z = 0 then Rs L xs (d) 41 41 ls st M x else Rs L xs (d) 41 7 ls st M x := Rs_ite c41_4 rfl
theorem c41_7 : qx_code 41 7 = some (7, .aload_n 0, 8, 0, 0, 0) := by decide +kernel
theorem s41_7 {L : Nat} {xs : Nat → Int32} {d x : Nat} {M : qxM} {st : List Value} {a1 a2 : Option Value} {z : Nat} : Rs L xs (d) 41 7 [some (.ref z), a1, a2] st M x = Rs L xs (d) 41 8 [some (.ref z), a1, a2] (.ref z :: st) M x := Rs_next c41_7 rfl
theorem c41_8 : qx_code 41 8 = some (8, .getfield 22, 11, 2, 1, 168) := by decide +kernel
theorem s41_8 {L : Nat} {xs : Nat → Int32} {d x : Nat} {M : qxM} {st : List Value} {ls : qxL} {t : Nat} (hk : qx_kd t = 12) : Rs L xs (d) 41 8 ls (.ref t :: st) M x = Rs L xs (d) 41 11 ls (.int (M.1 t 1) :: st) M x := Rs_when (qx_kd_obj (k := 2) (by decide) hk) c41_8 rfl
theorem c41_11 : qx_code 41 11 = some (11, .iconst 1, 12, 0, 0, 0) := by decide +kernel
theorem s41_11 {L : Nat} {xs : Nat → Int32} {d x : Nat} {M : qxM} {st : List Value} {ls : qxL} : Rs L xs (d) 41 11 ls st M x = Rs L xs (d) 41 12 ls (.int (nI 1) :: st) M x := Rs_next c41_11 rfl
theorem c41_12 : qx_code 41 12 = some (12, .if_icmp .ne 7, 15, 19, 0, 0) := by decide +kernel
theorem s41_12 {L : Nat} {xs : Nat → Int32} {d x : Nat} {M : qxM} {st : List Value} {ls : qxL} {z y : Int32} : Rs L xs (d) 41 12 ls (.int y :: .int z :: st) M x = if z = y then Rs L xs (d) 41 15 ls st M x else Rs L xs (d) 41 19 ls st M x := Rs_ite c41_12 rfl
theorem c41_15 : qx_code 41 15 = some (15, .iconst 1, 16, 0, 0, 0) := by decide +kernel
theorem s41_15 {L : Nat} {xs : Nat → Int32} {d x : Nat} {M : qxM} {st : List Value} {ls : qxL} : Rs L xs (d) 41 15 ls st M x = Rs L xs (d) 41 16 ls (.int (nI 1) :: st) M x := Rs_next c41_15 rfl
theorem c41_16 : qx_code 41 16 = some (16, .goto 4, 19, 20, 0, 0) := by decide +kernel
theorem s41_16 {L : Nat} {xs : Nat → Int32} {d x : Nat} {M : qxM} {st : List Value} {ls : qxL} : Rs L xs (d) 41 16 ls st M x = Rs L xs (d) 41 20 ls st M x := Rs_next c41_16 rfl
theorem c41_19 : qx_code 41 19 = some (19, .iconst 0, 20, 0, 0, 0) := by decide +kernel
theorem s41_19 {L : Nat} {xs : Nat → Int32} {d x : Nat} {M : qxM} {st : List Value} {ls : qxL} : Rs L xs (d) 41 19 ls st M x = Rs L xs (d) 41 20 ls (.int (nI 0) :: st) M x := Rs_next c41_19 rfl
theorem c41_20 : qx_code 41 20 = some (20, .aload_n 0, 21, 0, 0, 0) := by decide +kernel
theorem s41_20 {L : Nat} {xs : Nat → Int32} {d x : Nat} {M : qxM} {st : List Value} {a1 a2 : Option Value} {z : Nat} : Rs L xs (d) 41 20 [some (.ref z), a1, a2] st M x = Rs L xs (d) 41 21 [some (.ref z), a1, a2] (.ref z :: st) M x := Rs_next c41_20 rfl
theorem c41_21 : qx_code 41 21 = some (21, .iload_n 1, 22, 0, 0, 0) := by decide +kernel
theorem s41_21 {L : Nat} {xs : Nat → Int32} {d x : Nat} {M : qxM} {st : List Value} {a0 a2 : Option Value} {z : Int32} : Rs L xs (d) 41 21 [a0, some (.int z), a2] st M x = Rs L xs (d) 41 22 [a0, some (.int z), a2] (.int z :: st) M x := Rs_next c41_21 rfl
theorem c41_22 : qx_code 41 22 = some (22, .invokevirtual 51, 25, 37, 2, 826) := by decide +kernel
theorem s41_22 {L : Nat} {xs : Nat → Int32} {d x : Nat} {M : qxM} {st : List Value} {ls : qxL} {t : Nat} {z0 : Int32} (hk : qx_kd t = 12) (hs : st.length ≤ 4) : Rs L xs (d + 1) 41 22 ls (.int z0 :: .ref t :: st) M x = (Rs L xs d 37 0 [some (.ref t), some (.int z0)] [] M 0).bind (qx_kn L xs (d + 1) 41 22 25 37 ls st x) := by
  have h1 : qx_act L xs (qx_rt 41) (22, .invokevirtual 51, 25, 37, 2, 826) ls (.int z0 :: .ref t :: st) M = if 2 ≤ (.int z0 :: .ref t :: st).length ∧ st.length ≤ 4 then some (.inr (.inr (.inr (37, [.ref t, .int z0], st)))) else none := rfl
  rw [if_pos ⟨by simp [List.length_cons]; try omega, hs⟩] at h1
  have h2 := qx_kd_obj (k := 2) (by decide) hk
  exact Rs_call c41_22 h1 (by rw [show qx_args 37 [.ref t, .int z0] = decide (qx_sh t = some (.inl 2)) from rfl]; exact decide_eq_true h2)
theorem c41_25 : qx_code 41 25 = some (25, .aload_n 0, 26, 0, 0, 0) := by decide +kernel
theorem s41_25 {L : Nat} {xs : Nat → Int32} {d x : Nat} {M : qxM} {st : List Value} {a1 a2 : Option Value} {z : Nat} : Rs L xs (d) 41 25 [some (.ref z), a1, a2] st M x = Rs L xs (d) 41 26 [some (.ref z), a1, a2] (.ref z :: st) M x := Rs_next c41_25 rfl
theorem c41_26 : qx_code 41 26 = some (26, .iload_n 2, 27, 0, 0, 0) := by decide +kernel
theorem s41_26 {L : Nat} {xs : Nat → Int32} {d x : Nat} {M : qxM} {st : List Value} {a0 a1 : Option Value} {z : Int32} : Rs L xs (d) 41 26 [a0, a1, some (.int z)] st M x = Rs L xs (d) 41 27 [a0, a1, some (.int z)] (.int z :: st) M x := Rs_next c41_26 rfl
theorem c41_27 : qx_code 41 27 = some (27, .invokevirtual 51, 30, 37, 2, 826) := by decide +kernel
theorem s41_27 {L : Nat} {xs : Nat → Int32} {d x : Nat} {M : qxM} {st : List Value} {ls : qxL} {t : Nat} {z0 : Int32} (hk : qx_kd t = 12) (hs : st.length ≤ 4) : Rs L xs (d + 1) 41 27 ls (.int z0 :: .ref t :: st) M x = (Rs L xs d 37 0 [some (.ref t), some (.int z0)] [] M 0).bind (qx_kn L xs (d + 1) 41 27 30 37 ls st x) := by
  have h1 : qx_act L xs (qx_rt 41) (27, .invokevirtual 51, 30, 37, 2, 826) ls (.int z0 :: .ref t :: st) M = if 2 ≤ (.int z0 :: .ref t :: st).length ∧ st.length ≤ 4 then some (.inr (.inr (.inr (37, [.ref t, .int z0], st)))) else none := rfl
  rw [if_pos ⟨by simp [List.length_cons]; try omega, hs⟩] at h1
  have h2 := qx_kd_obj (k := 2) (by decide) hk
  exact Rs_call c41_27 h1 (by rw [show qx_args 37 [.ref t, .int z0] = decide (qx_sh t = some (.inl 2)) from rfl]; exact decide_eq_true h2)
theorem c41_30 : qx_code 41 30 = some (30, .if_icmp .eq 7, 33, 37, 0, 0) := by decide +kernel
theorem s41_30 {L : Nat} {xs : Nat → Int32} {d x : Nat} {M : qxM} {st : List Value} {ls : qxL} {z y : Int32} : Rs L xs (d) 41 30 ls (.int y :: .int z :: st) M x = if z = y then Rs L xs (d) 41 37 ls st M x else Rs L xs (d) 41 33 ls st M x := Rs_ite c41_30 rfl
theorem c41_33 : qx_code 41 33 = some (33, .iconst 1, 34, 0, 0, 0) := by decide +kernel
theorem s41_33 {L : Nat} {xs : Nat → Int32} {d x : Nat} {M : qxM} {st : List Value} {ls : qxL} : Rs L xs (d) 41 33 ls st M x = Rs L xs (d) 41 34 ls (.int (nI 1) :: st) M x := Rs_next c41_33 rfl
theorem c41_34 : qx_code 41 34 = some (34, .goto 4, 37, 38, 0, 0) := by decide +kernel
theorem s41_34 {L : Nat} {xs : Nat → Int32} {d x : Nat} {M : qxM} {st : List Value} {ls : qxL} : Rs L xs (d) 41 34 ls st M x = Rs L xs (d) 41 38 ls st M x := Rs_next c41_34 rfl
theorem c41_37 : qx_code 41 37 = some (37, .iconst 0, 38, 0, 0, 0) := by decide +kernel
theorem s41_37 {L : Nat} {xs : Nat → Int32} {d x : Nat} {M : qxM} {st : List Value} {ls : qxL} : Rs L xs (d) 41 37 ls st M x = Rs L xs (d) 41 38 ls (.int (nI 0) :: st) M x := Rs_next c41_37 rfl
theorem c41_38 : qx_code 41 38 = some (38, .if_icmp .ne 7, 41, 45, 0, 0) := by decide +kernel
theorem s41_38 {L : Nat} {xs : Nat → Int32} {d x : Nat} {M : qxM} {st : List Value} {ls : qxL} {z y : Int32} : Rs L xs (d) 41 38 ls (.int y :: .int z :: st) M x = if z = y then Rs L xs (d) 41 41 ls st M x else Rs L xs (d) 41 45 ls st M x := Rs_ite c41_38 rfl
theorem c41_41 : qx_code 41 41 = some (41, .iconst 1, 42, 0, 0, 0) := by decide +kernel
theorem s41_41 {L : Nat} {xs : Nat → Int32} {d x : Nat} {M : qxM} {st : List Value} {ls : qxL} : Rs L xs (d) 41 41 ls st M x = Rs L xs (d) 41 42 ls (.int (nI 1) :: st) M x := Rs_next c41_41 rfl
theorem c41_42 : qx_code 41 42 = some (42, .goto 4, 45, 46, 0, 0) := by decide +kernel
theorem s41_42 {L : Nat} {xs : Nat → Int32} {d x : Nat} {M : qxM} {st : List Value} {ls : qxL} : Rs L xs (d) 41 42 ls st M x = Rs L xs (d) 41 46 ls st M x := Rs_next c41_42 rfl
theorem c41_45 : qx_code 41 45 = some (45, .iconst 0, 46, 0, 0, 0) := by decide +kernel
theorem s41_45 {L : Nat} {xs : Nat → Int32} {d x : Nat} {M : qxM} {st : List Value} {ls : qxL} : Rs L xs (d) 41 45 ls st M x = Rs L xs (d) 41 46 ls (.int (nI 0) :: st) M x := Rs_next c41_45 rfl
theorem c41_46 : qx_code 41 46 = some (46, .ireturn, 47, 0, 0, 0) := by decide +kernel
theorem s41_46 {L : Nat} {xs : Nat → Int32} {d x : Nat} {M : qxM} {ls : qxL} {z : Int32} (h01 : z = 0 ∨ z = 1) : Rs L xs (d) 41 46 ls [.int z] M x = some (.inl (some (.int z)), M, x) := Rs_retw h01 c41_46 rfl
theorem c42_0 : qx_code 42 0 = some (0, .aload_n 0, 1, 0, 0, 0) := by decide +kernel
theorem s42_0 {L : Nat} {xs : Nat → Int32} {d x : Nat} {M : qxM} {st : List Value} {a1 : Option Value} {z : Nat} : Rs L xs (d) 42 0 [some (.ref z), a1] st M x = Rs L xs (d) 42 1 [some (.ref z), a1] (.ref z :: st) M x := Rs_next c42_0 rfl
theorem c42_1 : qx_code 42 1 = some (1, .aload_n 0, 2, 0, 0, 0) := by decide +kernel
theorem s42_1 {L : Nat} {xs : Nat → Int32} {d x : Nat} {M : qxM} {st : List Value} {a1 : Option Value} {z : Nat} : Rs L xs (d) 42 1 [some (.ref z), a1] st M x = Rs L xs (d) 42 2 [some (.ref z), a1] (.ref z :: st) M x := Rs_next c42_1 rfl
theorem c42_2 : qx_code 42 2 = some (2, .getfield 22, 5, 2, 1, 168) := by decide +kernel
theorem s42_2 {L : Nat} {xs : Nat → Int32} {d x : Nat} {M : qxM} {st : List Value} {ls : qxL} {t : Nat} (hk : qx_kd t = 12) : Rs L xs (d) 42 2 ls (.ref t :: st) M x = Rs L xs (d) 42 5 ls (.int (M.1 t 1) :: st) M x := Rs_when (qx_kd_obj (k := 2) (by decide) hk) c42_2 rfl
theorem c42_5 : qx_code 42 5 = some (5, .iload_n 1, 6, 0, 0, 0) := by decide +kernel
theorem s42_5 {L : Nat} {xs : Nat → Int32} {d x : Nat} {M : qxM} {st : List Value} {a0 : Option Value} {z : Int32} : Rs L xs (d) 42 5 [a0, some (.int z)] st M x = Rs L xs (d) 42 6 [a0, some (.int z)] (.int z :: st) M x := Rs_next c42_5 rfl
theorem c42_6 : qx_code 42 6 = some (6, .invokevirtual 54, 9, 43, 3, 642) := by decide +kernel
theorem s42_6 {L : Nat} {xs : Nat → Int32} {d x : Nat} {M : qxM} {st : List Value} {ls : qxL} {t : Nat} {z0 : Int32} {z1 : Int32} (hk : qx_kd t = 12) (hs : st.length ≤ 4) : Rs L xs (d + 1) 42 6 ls (.int z1 :: .int z0 :: .ref t :: st) M x = (Rs L xs d 43 0 [some (.ref t), some (.int z0), some (.int z1), none] [] M 0).bind (qx_kn L xs (d + 1) 42 6 9 43 ls st x) := by
  have h1 : qx_act L xs (qx_rt 42) (6, .invokevirtual 54, 9, 43, 3, 642) ls (.int z1 :: .int z0 :: .ref t :: st) M = if 3 ≤ (.int z1 :: .int z0 :: .ref t :: st).length ∧ st.length ≤ 4 then some (.inr (.inr (.inr (43, [.ref t, .int z0, .int z1], st)))) else none := rfl
  rw [if_pos ⟨by simp [List.length_cons]; try omega, hs⟩] at h1
  have h2 := qx_kd_obj (k := 2) (by decide) hk
  exact Rs_call c42_6 h1 (by rw [show qx_args 43 [.ref t, .int z0, .int z1] = decide (qx_sh t = some (.inl 2)) from rfl]; exact decide_eq_true h2)
theorem c42_9 : qx_code 42 9 = some (9, .ireturn, 10, 0, 0, 0) := by decide +kernel
theorem s42_9 {L : Nat} {xs : Nat → Int32} {d x : Nat} {M : qxM} {ls : qxL} {z : Int32} : Rs L xs (d) 42 9 ls [.int z] M x = some (.inl (some (.int z)), M, x) := Rs_ret c42_9 rfl
theorem c43_0 : qx_code 43 0 = some (0, .aload_n 0, 1, 0, 0, 0) := by decide +kernel
theorem s43_0 {L : Nat} {xs : Nat → Int32} {d x : Nat} {M : qxM} {st : List Value} {a1 a2 a3 : Option Value} {z : Nat} : Rs L xs (d) 43 0 [some (.ref z), a1, a2, a3] st M x = Rs L xs (d) 43 1 [some (.ref z), a1, a2, a3] (.ref z :: st) M x := Rs_next c43_0 rfl
theorem c43_1 : qx_code 43 1 = some (1, .getfield 25, 4, 2, 2, 171) := by decide +kernel
theorem s43_1 {L : Nat} {xs : Nat → Int32} {d x : Nat} {M : qxM} {st : List Value} {ls : qxL} {t : Nat} (hk : qx_kd t = 12) : Rs L xs (d) 43 1 ls (.ref t :: st) M x = Rs L xs (d) 43 4 ls (.int (M.1 t 2) :: st) M x := Rs_when (qx_kd_obj (k := 2) (by decide) hk) c43_1 rfl
theorem c43_4 : qx_code 43 4 = some (4, .iload_n 2, 5, 0, 0, 0) := by decide +kernel
theorem s43_4 {L : Nat} {xs : Nat → Int32} {d x : Nat} {M : qxM} {st : List Value} {a0 a1 a3 : Option Value} {z : Int32} : Rs L xs (d) 43 4 [a0, a1, some (.int z), a3] st M x = Rs L xs (d) 43 5 [a0, a1, some (.int z), a3] (.int z :: st) M x := Rs_next c43_4 rfl
theorem c43_5 : qx_code 43 5 = some (5, .invokestatic 40, 8, 170, 2, 646) := by decide +kernel
theorem s43_5 {L : Nat} {xs : Nat → Int32} {d x : Nat} {M : qxM} {st : List Value} {ls : qxL} {z0 : Int32} {z1 : Int32} (hs : st.length ≤ 4) : Rs L xs (d + 1) 43 5 ls (.int z1 :: .int z0 :: st) M x = (Rs L xs d 170 0 [some (.int z0), some (.int z1)] [] M 0).bind (qx_kn L xs (d + 1) 43 5 8 170 ls st x) := by
  have h1 : qx_act L xs (qx_rt 43) (5, .invokestatic 40, 8, 170, 2, 646) ls (.int z1 :: .int z0 :: st) M = if 2 ≤ (.int z1 :: .int z0 :: st).length ∧ st.length ≤ 4 then some (.inr (.inr (.inr (170, [.int z0, .int z1], st)))) else none := rfl
  rw [if_pos ⟨by simp [List.length_cons]; try omega, hs⟩] at h1
  exact Rs_call c43_5 h1 rfl
theorem c43_8 : qx_code 43 8 = some (8, .ifCond .eq 10, 11, 18, 0, 0) := by decide +kernel
theorem s43_8 {L : Nat} {xs : Nat → Int32} {d x : Nat} {M : qxM} {st : List Value} {ls : qxL} {z : Int32} : Rs L xs (d) 43 8 ls (.int z :: st) M x = if z = 0 then Rs L xs (d) 43 18 ls st M x else Rs L xs (d) 43 11 ls st M x := Rs_ite c43_8 rfl
theorem c43_11 : qx_code 43 11 = some (11, .aload_n 0, 12, 0, 0, 0) := by decide +kernel
theorem s43_11 {L : Nat} {xs : Nat → Int32} {d x : Nat} {M : qxM} {st : List Value} {a1 a2 a3 : Option Value} {z : Nat} : Rs L xs (d) 43 11 [some (.ref z), a1, a2, a3] st M x = Rs L xs (d) 43 12 [some (.ref z), a1, a2, a3] (.ref z :: st) M x := Rs_next c43_11 rfl
theorem c43_12 : qx_code 43 12 = some (12, .getfield 25, 15, 2, 2, 171) := by decide +kernel
theorem s43_12 {L : Nat} {xs : Nat → Int32} {d x : Nat} {M : qxM} {st : List Value} {ls : qxL} {t : Nat} (hk : qx_kd t = 12) : Rs L xs (d) 43 12 ls (.ref t :: st) M x = Rs L xs (d) 43 15 ls (.int (M.1 t 2) :: st) M x := Rs_when (qx_kd_obj (k := 2) (by decide) hk) c43_12 rfl
theorem c43_15 : qx_code 43 15 = some (15, .goto 9, 18, 24, 0, 0) := by decide +kernel
theorem s43_15 {L : Nat} {xs : Nat → Int32} {d x : Nat} {M : qxM} {st : List Value} {ls : qxL} : Rs L xs (d) 43 15 ls st M x = Rs L xs (d) 43 24 ls st M x := Rs_next c43_15 rfl
theorem c43_18 : qx_code 43 18 = some (18, .aload_n 0, 19, 0, 0, 0) := by decide +kernel
theorem s43_18 {L : Nat} {xs : Nat → Int32} {d x : Nat} {M : qxM} {st : List Value} {a1 a2 a3 : Option Value} {z : Nat} : Rs L xs (d) 43 18 [some (.ref z), a1, a2, a3] st M x = Rs L xs (d) 43 19 [some (.ref z), a1, a2, a3] (.ref z :: st) M x := Rs_next c43_18 rfl
theorem c43_19 : qx_code 43 19 = some (19, .getfield 25, 22, 2, 2, 171) := by decide +kernel
theorem s43_19 {L : Nat} {xs : Nat → Int32} {d x : Nat} {M : qxM} {st : List Value} {ls : qxL} {t : Nat} (hk : qx_kd t = 12) : Rs L xs (d) 43 19 ls (.ref t :: st) M x = Rs L xs (d) 43 22 ls (.int (M.1 t 2) :: st) M x := Rs_when (qx_kd_obj (k := 2) (by decide) hk) c43_19 rfl
theorem c43_22 : qx_code 43 22 = some (22, .iconst (-1), 23, 0, 0, 0) := by decide +kernel
theorem s43_22 {L : Nat} {xs : Nat → Int32} {d x : Nat} {M : qxM} {st : List Value} {ls : qxL} : Rs L xs (d) 43 22 ls st M x = Rs L xs (d) 43 23 ls (.int (-1) :: st) M x := Rs_next c43_22 rfl
theorem c43_23 : qx_code 43 23 = some (23, .ixor, 24, 0, 0, 0) := by decide +kernel
theorem s43_23 {L : Nat} {xs : Nat → Int32} {d x : Nat} {M : qxM} {st : List Value} {ls : qxL} {z y : Int32} : Rs L xs (d) 43 23 ls (.int y :: .int z :: st) M x = Rs L xs (d) 43 24 ls (.int (z ^^^ y) :: st) M x := Rs_next c43_23 rfl
theorem c43_24 : qx_code 43 24 = some (24, .istore_n 3, 25, 0, 0, 0) := by decide +kernel
theorem s43_24i {L : Nat} {xs : Nat → Int32} {d x : Nat} {M : qxM} {st : List Value} {a0 a1 a3 : Option Value} {z : Int32} {y : Int32} : Rs L xs (d) 43 24 [a0, a1, some (.int y), a3] (.int z :: st) M x = Rs L xs (d) 43 25 [a0, a1, some (.int y), some (.int z)] st M x := Rs_next c43_24 rfl
theorem s43_24r {L : Nat} {xs : Nat → Int32} {d x : Nat} {M : qxM} {st : List Value} {a0 a1 a3 : Option Value} {z : Int32} {y : Nat} : Rs L xs (d) 43 24 [a0, a1, some (.ref y), a3] (.int z :: st) M x = Rs L xs (d) 43 25 [a0, a1, some (.ref y), some (.int z)] st M x := Rs_next c43_24 rfl
theorem s43_24n {L : Nat} {xs : Nat → Int32} {d x : Nat} {M : qxM} {st : List Value} {a0 a1 a3 : Option Value} {z : Int32} : Rs L xs (d) 43 24 [a0, a1, none, a3] (.int z :: st) M x = Rs L xs (d) 43 25 [a0, a1, none, some (.int z)] st M x := Rs_next c43_24 rfl
theorem c43_25 : qx_code 43 25 = some (25, .iload_n 1, 26, 0, 0, 0) := by decide +kernel
theorem s43_25 {L : Nat} {xs : Nat → Int32} {d x : Nat} {M : qxM} {st : List Value} {a0 a2 a3 : Option Value} {z : Int32} : Rs L xs (d) 43 25 [a0, some (.int z), a2, a3] st M x = Rs L xs (d) 43 26 [a0, some (.int z), a2, a3] (.int z :: st) M x := Rs_next c43_25 rfl
theorem c43_26 : qx_code 43 26 = some (26, .ifCond .ne 9, 29, 35, 0, 0) := by decide +kernel
theorem s43_26 {L : Nat} {xs : Nat → Int32} {d x : Nat} {M : qxM} {st : List Value} {ls : qxL} {z : Int32} : Rs L xs (d) 43 26 ls (.int z :: st) M x = if z = 0 then Rs L xs (d) 43 29 ls st M x else Rs L xs (d) 43 35 ls st M x := Rs_ite c43_26 rfl
theorem c43_29 : qx_code 43 29 = some (29, .aload_n 0, 30, 0, 0, 0) := by decide +kernel
theorem s43_29 {L : Nat} {xs : Nat → Int32} {d x : Nat} {M : qxM} {st : List Value} {a1 a2 a3 : Option Value} {z : Nat} : Rs L xs (d) 43 29 [some (.ref z), a1, a2, a3] st M x = Rs L xs (d) 43 30 [some (.ref z), a1, a2, a3] (.ref z :: st) M x := Rs_next c43_29 rfl
theorem c43_30 : qx_code 43 30 = some (30, .iload_n 2, 31, 0, 0, 0) := by decide +kernel
theorem s43_30 {L : Nat} {xs : Nat → Int32} {d x : Nat} {M : qxM} {st : List Value} {a0 a1 a3 : Option Value} {z : Int32} : Rs L xs (d) 43 30 [a0, a1, some (.int z), a3] st M x = Rs L xs (d) 43 31 [a0, a1, some (.int z), a3] (.int z :: st) M x := Rs_next c43_30 rfl
theorem c43_31 : qx_code 43 31 = some (31, .invokevirtual 44, 34, 39, 2, 647) := by decide +kernel
theorem s43_31 {L : Nat} {xs : Nat → Int32} {d x : Nat} {M : qxM} {st : List Value} {ls : qxL} {t : Nat} {z0 : Int32} (hk : qx_kd t = 12) (hs : st.length ≤ 4) : Rs L xs (d + 1) 43 31 ls (.int z0 :: .ref t :: st) M x = (Rs L xs d 39 0 [some (.ref t), some (.int z0)] [] M 0).bind (qx_kn L xs (d + 1) 43 31 34 39 ls st x) := by
  have h1 : qx_act L xs (qx_rt 43) (31, .invokevirtual 44, 34, 39, 2, 647) ls (.int z0 :: .ref t :: st) M = if 2 ≤ (.int z0 :: .ref t :: st).length ∧ st.length ≤ 4 then some (.inr (.inr (.inr (39, [.ref t, .int z0], st)))) else none := rfl
  rw [if_pos ⟨by simp [List.length_cons]; try omega, hs⟩] at h1
  have h2 := qx_kd_obj (k := 2) (by decide) hk
  exact Rs_call c43_31 h1 (by rw [show qx_args 39 [.ref t, .int z0] = decide (qx_sh t = some (.inl 2)) from rfl]; exact decide_eq_true h2)
theorem c43_34 : qx_code 43 34 = some (34, .ireturn, 35, 0, 0, 0) := by decide +kernel
theorem s43_34 {L : Nat} {xs : Nat → Int32} {d x : Nat} {M : qxM} {ls : qxL} {z : Int32} : Rs L xs (d) 43 34 ls [.int z] M x = some (.inl (some (.int z)), M, x) := Rs_ret c43_34 rfl
theorem c43_35 : qx_code 43 35 = some (35, .aload_n 0, 36, 0, 0, 0) := by decide +kernel
theorem s43_35 {L : Nat} {xs : Nat → Int32} {d x : Nat} {M : qxM} {st : List Value} {a1 a2 a3 : Option Value} {z : Nat} : Rs L xs (d) 43 35 [some (.ref z), a1, a2, a3] st M x = Rs L xs (d) 43 36 [some (.ref z), a1, a2, a3] (.ref z :: st) M x := Rs_next c43_35 rfl
theorem c43_36 : qx_code 43 36 = some (36, .iload_n 2, 37, 0, 0, 0) := by decide +kernel
theorem s43_36 {L : Nat} {xs : Nat → Int32} {d x : Nat} {M : qxM} {st : List Value} {a0 a1 a3 : Option Value} {z : Int32} : Rs L xs (d) 43 36 [a0, a1, some (.int z), a3] st M x = Rs L xs (d) 43 37 [a0, a1, some (.int z), a3] (.int z :: st) M x := Rs_next c43_36 rfl
theorem c43_37 : qx_code 43 37 = some (37, .invokevirtual 44, 40, 39, 2, 647) := by decide +kernel
theorem s43_37 {L : Nat} {xs : Nat → Int32} {d x : Nat} {M : qxM} {st : List Value} {ls : qxL} {t : Nat} {z0 : Int32} (hk : qx_kd t = 12) (hs : st.length ≤ 4) : Rs L xs (d + 1) 43 37 ls (.int z0 :: .ref t :: st) M x = (Rs L xs d 39 0 [some (.ref t), some (.int z0)] [] M 0).bind (qx_kn L xs (d + 1) 43 37 40 39 ls st x) := by
  have h1 : qx_act L xs (qx_rt 43) (37, .invokevirtual 44, 40, 39, 2, 647) ls (.int z0 :: .ref t :: st) M = if 2 ≤ (.int z0 :: .ref t :: st).length ∧ st.length ≤ 4 then some (.inr (.inr (.inr (39, [.ref t, .int z0], st)))) else none := rfl
  rw [if_pos ⟨by simp [List.length_cons]; try omega, hs⟩] at h1
  have h2 := qx_kd_obj (k := 2) (by decide) hk
  exact Rs_call c43_37 h1 (by rw [show qx_args 39 [.ref t, .int z0] = decide (qx_sh t = some (.inl 2)) from rfl]; exact decide_eq_true h2)
theorem c43_40 : qx_code 43 40 = some (40, .iload_n 1, 41, 0, 0, 0) := by decide +kernel
theorem s43_40 {L : Nat} {xs : Nat → Int32} {d x : Nat} {M : qxM} {st : List Value} {a0 a2 a3 : Option Value} {z : Int32} : Rs L xs (d) 43 40 [a0, some (.int z), a2, a3] st M x = Rs L xs (d) 43 41 [a0, some (.int z), a2, a3] (.int z :: st) M x := Rs_next c43_40 rfl
theorem c43_41 : qx_code 43 41 = some (41, .iconst 1, 42, 0, 0, 0) := by decide +kernel
theorem s43_41 {L : Nat} {xs : Nat → Int32} {d x : Nat} {M : qxM} {st : List Value} {ls : qxL} : Rs L xs (d) 43 41 ls st M x = Rs L xs (d) 43 42 ls (.int (nI 1) :: st) M x := Rs_next c43_41 rfl
theorem c43_42 : qx_code 43 42 = some (42, .if_icmp .ne 9, 45, 51, 0, 0) := by decide +kernel
theorem s43_42 {L : Nat} {xs : Nat → Int32} {d x : Nat} {M : qxM} {st : List Value} {ls : qxL} {z y : Int32} : Rs L xs (d) 43 42 ls (.int y :: .int z :: st) M x = if z = y then Rs L xs (d) 43 45 ls st M x else Rs L xs (d) 43 51 ls st M x := Rs_ite c43_42 rfl
theorem c43_45 : qx_code 43 45 = some (45, .iload_n 3, 46, 0, 0, 0) := by decide +kernel
theorem s43_45 {L : Nat} {xs : Nat → Int32} {d x : Nat} {M : qxM} {st : List Value} {a0 a1 a2 : Option Value} {z : Int32} : Rs L xs (d) 43 45 [a0, a1, a2, some (.int z)] st M x = Rs L xs (d) 43 46 [a0, a1, a2, some (.int z)] (.int z :: st) M x := Rs_next c43_45 rfl
theorem c43_46 : qx_code 43 46 = some (46, .iconst (-1), 47, 0, 0, 0) := by decide +kernel
theorem s43_46 {L : Nat} {xs : Nat → Int32} {d x : Nat} {M : qxM} {st : List Value} {ls : qxL} : Rs L xs (d) 43 46 ls st M x = Rs L xs (d) 43 47 ls (.int (-1) :: st) M x := Rs_next c43_46 rfl
theorem c43_47 : qx_code 43 47 = some (47, .ixor, 48, 0, 0, 0) := by decide +kernel
theorem s43_47 {L : Nat} {xs : Nat → Int32} {d x : Nat} {M : qxM} {st : List Value} {ls : qxL} {z y : Int32} : Rs L xs (d) 43 47 ls (.int y :: .int z :: st) M x = Rs L xs (d) 43 48 ls (.int (z ^^^ y) :: st) M x := Rs_next c43_47 rfl
theorem c43_48 : qx_code 43 48 = some (48, .goto 4, 51, 52, 0, 0) := by decide +kernel
theorem s43_48 {L : Nat} {xs : Nat → Int32} {d x : Nat} {M : qxM} {st : List Value} {ls : qxL} : Rs L xs (d) 43 48 ls st M x = Rs L xs (d) 43 52 ls st M x := Rs_next c43_48 rfl
theorem c43_51 : qx_code 43 51 = some (51, .iload_n 3, 52, 0, 0, 0) := by decide +kernel
theorem s43_51 {L : Nat} {xs : Nat → Int32} {d x : Nat} {M : qxM} {st : List Value} {a0 a1 a2 : Option Value} {z : Int32} : Rs L xs (d) 43 51 [a0, a1, a2, some (.int z)] st M x = Rs L xs (d) 43 52 [a0, a1, a2, some (.int z)] (.int z :: st) M x := Rs_next c43_51 rfl
theorem c43_52 : qx_code 43 52 = some (52, .iand, 53, 0, 0, 0) := by decide +kernel
theorem s43_52 {L : Nat} {xs : Nat → Int32} {d x : Nat} {M : qxM} {st : List Value} {ls : qxL} {z y : Int32} : Rs L xs (d) 43 52 ls (.int y :: .int z :: st) M x = Rs L xs (d) 43 53 ls (.int (z &&& y) :: st) M x := Rs_next c43_52 rfl
theorem c43_53 : qx_code 43 53 = some (53, .ireturn, 54, 0, 0, 0) := by decide +kernel
theorem s43_53 {L : Nat} {xs : Nat → Int32} {d x : Nat} {M : qxM} {ls : qxL} {z : Int32} : Rs L xs (d) 43 53 ls [.int z] M x = some (.inl (some (.int z)), M, x) := Rs_ret c43_53 rfl
theorem c44_0 : qx_code 44 0 = some (0, .iconst 0, 1, 0, 0, 0) := by decide +kernel
theorem s44_0 {L : Nat} {xs : Nat → Int32} {d x : Nat} {M : qxM} {st : List Value} {ls : qxL} : Rs L xs (d) 44 0 ls st M x = Rs L xs (d) 44 1 ls (.int (nI 0) :: st) M x := Rs_next c44_0 rfl
theorem c44_1 : qx_code 44 1 = some (1, .istore_n 1, 2, 0, 0, 0) := by decide +kernel
theorem s44_1i {L : Nat} {xs : Nat → Int32} {d x : Nat} {M : qxM} {st : List Value} {a1 a2 : Option Value} {z : Int32} {y : Int32} : Rs L xs (d) 44 1 [some (.int y), a1, a2] (.int z :: st) M x = Rs L xs (d) 44 2 [some (.int y), some (.int z), a2] st M x := Rs_next c44_1 rfl
theorem s44_1r {L : Nat} {xs : Nat → Int32} {d x : Nat} {M : qxM} {st : List Value} {a1 a2 : Option Value} {z : Int32} {y : Nat} : Rs L xs (d) 44 1 [some (.ref y), a1, a2] (.int z :: st) M x = Rs L xs (d) 44 2 [some (.ref y), some (.int z), a2] st M x := Rs_next c44_1 rfl
theorem s44_1n {L : Nat} {xs : Nat → Int32} {d x : Nat} {M : qxM} {st : List Value} {a1 a2 : Option Value} {z : Int32} : Rs L xs (d) 44 1 [none, a1, a2] (.int z :: st) M x = Rs L xs (d) 44 2 [none, some (.int z), a2] st M x := Rs_next c44_1 rfl
theorem c44_2 : qx_code 44 2 = some (2, .iconst 0, 3, 0, 0, 0) := by decide +kernel
theorem s44_2 {L : Nat} {xs : Nat → Int32} {d x : Nat} {M : qxM} {st : List Value} {ls : qxL} : Rs L xs (d) 44 2 ls st M x = Rs L xs (d) 44 3 ls (.int (nI 0) :: st) M x := Rs_next c44_2 rfl
theorem c44_3 : qx_code 44 3 = some (3, .istore_n 2, 4, 0, 0, 0) := by decide +kernel
theorem s44_3i {L : Nat} {xs : Nat → Int32} {d x : Nat} {M : qxM} {st : List Value} {a0 a2 : Option Value} {z : Int32} {y : Int32} : Rs L xs (d) 44 3 [a0, some (.int y), a2] (.int z :: st) M x = Rs L xs (d) 44 4 [a0, some (.int y), some (.int z)] st M x := Rs_next c44_3 rfl
theorem s44_3r {L : Nat} {xs : Nat → Int32} {d x : Nat} {M : qxM} {st : List Value} {a0 a2 : Option Value} {z : Int32} {y : Nat} : Rs L xs (d) 44 3 [a0, some (.ref y), a2] (.int z :: st) M x = Rs L xs (d) 44 4 [a0, some (.ref y), some (.int z)] st M x := Rs_next c44_3 rfl
theorem s44_3n {L : Nat} {xs : Nat → Int32} {d x : Nat} {M : qxM} {st : List Value} {a0 a2 : Option Value} {z : Int32} : Rs L xs (d) 44 3 [a0, none, a2] (.int z :: st) M x = Rs L xs (d) 44 4 [a0, none, some (.int z)] st M x := Rs_next c44_3 rfl
theorem c44_4 : qx_code 44 4 = some (4, .iload_n 2, 5, 0, 0, 0) := by decide +kernel
theorem s44_4 {L : Nat} {xs : Nat → Int32} {d x : Nat} {M : qxM} {st : List Value} {a0 a1 : Option Value} {z : Int32} : Rs L xs (d) 44 4 [a0, a1, some (.int z)] st M x = Rs L xs (d) 44 5 [a0, a1, some (.int z)] (.int z :: st) M x := Rs_next c44_4 rfl
theorem c44_5 : qx_code 44 5 = some (5, .aload_n 0, 6, 0, 0, 0) := by decide +kernel
theorem s44_5 {L : Nat} {xs : Nat → Int32} {d x : Nat} {M : qxM} {st : List Value} {a1 a2 : Option Value} {z : Nat} : Rs L xs (d) 44 5 [some (.ref z), a1, a2] st M x = Rs L xs (d) 44 6 [some (.ref z), a1, a2] (.ref z :: st) M x := Rs_next c44_5 rfl
theorem c44_6 : qx_code 44 6 = some (6, .getfield 18, 9, 2, 0, 165) := by decide +kernel
theorem s44_6 {L : Nat} {xs : Nat → Int32} {d x : Nat} {M : qxM} {st : List Value} {ls : qxL} {t : Nat} (hk : qx_kd t = 12) : Rs L xs (d) 44 6 ls (.ref t :: st) M x = Rs L xs (d) 44 9 ls (.int (M.1 t 0) :: st) M x := Rs_when (qx_kd_obj (k := 2) (by decide) hk) c44_6 rfl
theorem c44_9 : qx_code 44 9 = some (9, .if_icmp .ge 20, 12, 29, 0, 0) := by decide +kernel
theorem s44_9 {L : Nat} {xs : Nat → Int32} {d x : Nat} {M : qxM} {st : List Value} {ls : qxL} {z y : Int32} : Rs L xs (d) 44 9 ls (.int y :: .int z :: st) M x = if y ≤ z then Rs L xs (d) 44 29 ls st M x else Rs L xs (d) 44 12 ls st M x := Rs_ite c44_9 rfl
theorem c44_12 : qx_code 44 12 = some (12, .iload_n 1, 13, 0, 0, 0) := by decide +kernel
theorem s44_12 {L : Nat} {xs : Nat → Int32} {d x : Nat} {M : qxM} {st : List Value} {a0 a2 : Option Value} {z : Int32} : Rs L xs (d) 44 12 [a0, some (.int z), a2] st M x = Rs L xs (d) 44 13 [a0, some (.int z), a2] (.int z :: st) M x := Rs_next c44_12 rfl
theorem c44_13 : qx_code 44 13 = some (13, .aload_n 0, 14, 0, 0, 0) := by decide +kernel
theorem s44_13 {L : Nat} {xs : Nat → Int32} {d x : Nat} {M : qxM} {st : List Value} {a1 a2 : Option Value} {z : Nat} : Rs L xs (d) 44 13 [some (.ref z), a1, a2] st M x = Rs L xs (d) 44 14 [some (.ref z), a1, a2] (.ref z :: st) M x := Rs_next c44_13 rfl
theorem c44_14 : qx_code 44 14 = some (14, .iload_n 2, 15, 0, 0, 0) := by decide +kernel
theorem s44_14 {L : Nat} {xs : Nat → Int32} {d x : Nat} {M : qxM} {st : List Value} {a0 a1 : Option Value} {z : Int32} : Rs L xs (d) 44 14 [a0, a1, some (.int z)] st M x = Rs L xs (d) 44 15 [a0, a1, some (.int z)] (.int z :: st) M x := Rs_next c44_14 rfl
theorem c44_15 : qx_code 44 15 = some (15, .invokevirtual 44, 18, 39, 2, 647) := by decide +kernel
theorem s44_15 {L : Nat} {xs : Nat → Int32} {d x : Nat} {M : qxM} {st : List Value} {ls : qxL} {t : Nat} {z0 : Int32} (hk : qx_kd t = 12) (hs : st.length ≤ 4) : Rs L xs (d + 1) 44 15 ls (.int z0 :: .ref t :: st) M x = (Rs L xs d 39 0 [some (.ref t), some (.int z0)] [] M 0).bind (qx_kn L xs (d + 1) 44 15 18 39 ls st x) := by
  have h1 : qx_act L xs (qx_rt 44) (15, .invokevirtual 44, 18, 39, 2, 647) ls (.int z0 :: .ref t :: st) M = if 2 ≤ (.int z0 :: .ref t :: st).length ∧ st.length ≤ 4 then some (.inr (.inr (.inr (39, [.ref t, .int z0], st)))) else none := rfl
  rw [if_pos ⟨by simp [List.length_cons]; try omega, hs⟩] at h1
  have h2 := qx_kd_obj (k := 2) (by decide) hk
  exact Rs_call c44_15 h1 (by rw [show qx_args 39 [.ref t, .int z0] = decide (qx_sh t = some (.inl 2)) from rfl]; exact decide_eq_true h2)
theorem c44_18 : qx_code 44 18 = some (18, .invokestatic 58, 21, 334, 1, 757) := by decide +kernel
theorem s44_18 {L : Nat} {xs : Nat → Int32} {d x : Nat} {M : qxM} {st : List Value} {ls : qxL} {z0 : Int32} (hs : st.length ≤ 4) : Rs L xs (d + 1) 44 18 ls (.int z0 :: st) M x = (Rs L xs d 334 0 [some (.int z0)] [] M 0).bind (qx_kn L xs (d + 1) 44 18 21 334 ls st x) := by
  have h1 : qx_act L xs (qx_rt 44) (18, .invokestatic 58, 21, 334, 1, 757) ls (.int z0 :: st) M = if 1 ≤ (.int z0 :: st).length ∧ st.length ≤ 4 then some (.inr (.inr (.inr (334, [.int z0], st)))) else none := rfl
  rw [if_pos ⟨by simp [List.length_cons]; try omega, hs⟩] at h1
  exact Rs_call c44_18 h1 rfl
theorem c44_21 : qx_code 44 21 = some (21, .iadd, 22, 0, 0, 0) := by decide +kernel
theorem s44_21 {L : Nat} {xs : Nat → Int32} {d x : Nat} {M : qxM} {st : List Value} {ls : qxL} {z y : Int32} : Rs L xs (d) 44 21 ls (.int y :: .int z :: st) M x = Rs L xs (d) 44 22 ls (.int (z + y) :: st) M x := Rs_next c44_21 rfl
theorem c44_22 : qx_code 44 22 = some (22, .istore_n 1, 23, 0, 0, 0) := by decide +kernel
theorem s44_22i {L : Nat} {xs : Nat → Int32} {d x : Nat} {M : qxM} {st : List Value} {a1 a2 : Option Value} {z : Int32} {y : Int32} : Rs L xs (d) 44 22 [some (.int y), a1, a2] (.int z :: st) M x = Rs L xs (d) 44 23 [some (.int y), some (.int z), a2] st M x := Rs_next c44_22 rfl
theorem s44_22r {L : Nat} {xs : Nat → Int32} {d x : Nat} {M : qxM} {st : List Value} {a1 a2 : Option Value} {z : Int32} {y : Nat} : Rs L xs (d) 44 22 [some (.ref y), a1, a2] (.int z :: st) M x = Rs L xs (d) 44 23 [some (.ref y), some (.int z), a2] st M x := Rs_next c44_22 rfl
theorem s44_22n {L : Nat} {xs : Nat → Int32} {d x : Nat} {M : qxM} {st : List Value} {a1 a2 : Option Value} {z : Int32} : Rs L xs (d) 44 22 [none, a1, a2] (.int z :: st) M x = Rs L xs (d) 44 23 [none, some (.int z), a2] st M x := Rs_next c44_22 rfl
theorem c44_23 : qx_code 44 23 = some (23, .iinc 2 1, 26, 0, 0, 0) := by decide +kernel
theorem s44_23i {L : Nat} {xs : Nat → Int32} {d x : Nat} {M : qxM} {st : List Value} {a0 : Option Value} {z : Int32} {y : Int32} : Rs L xs (d) 44 23 [a0, some (.int y), some (.int z)] st M x = Rs L xs (d) 44 26 [a0, some (.int y), some (.int (z + (nI 1)))] st M x := Rs_next c44_23 rfl
theorem s44_23r {L : Nat} {xs : Nat → Int32} {d x : Nat} {M : qxM} {st : List Value} {a0 : Option Value} {z : Int32} {y : Nat} : Rs L xs (d) 44 23 [a0, some (.ref y), some (.int z)] st M x = Rs L xs (d) 44 26 [a0, some (.ref y), some (.int (z + (nI 1)))] st M x := Rs_next c44_23 rfl
theorem s44_23n {L : Nat} {xs : Nat → Int32} {d x : Nat} {M : qxM} {st : List Value} {a0 : Option Value} {z : Int32} : Rs L xs (d) 44 23 [a0, none, some (.int z)] st M x = Rs L xs (d) 44 26 [a0, none, some (.int (z + (nI 1)))] st M x := Rs_next c44_23 rfl
theorem c44_26 : qx_code 44 26 = some (26, .goto (-22), 29, 4, 0, 0) := by decide +kernel
theorem s44_26 {L : Nat} {xs : Nat → Int32} {d x : Nat} {M : qxM} {st : List Value} {ls : qxL} : Rs L xs (d) 44 26 ls st M x = Rs L xs (d) 44 4 ls st M x := Rs_next c44_26 rfl
theorem c44_29 : qx_code 44 29 = some (29, .iload_n 1, 30, 0, 0, 0) := by decide +kernel
theorem s44_29 {L : Nat} {xs : Nat → Int32} {d x : Nat} {M : qxM} {st : List Value} {a0 a2 : Option Value} {z : Int32} : Rs L xs (d) 44 29 [a0, some (.int z), a2] st M x = Rs L xs (d) 44 30 [a0, some (.int z), a2] (.int z :: st) M x := Rs_next c44_29 rfl
theorem c44_30 : qx_code 44 30 = some (30, .iconst 2, 31, 0, 0, 0) := by decide +kernel
theorem s44_30 {L : Nat} {xs : Nat → Int32} {d x : Nat} {M : qxM} {st : List Value} {ls : qxL} : Rs L xs (d) 44 30 ls st M x = Rs L xs (d) 44 31 ls (.int (nI 2) :: st) M x := Rs_next c44_30 rfl
theorem c44_31 : qx_code 44 31 = some (31, .idiv, 32, 0, 0, 0) := by decide +kernel
theorem s44_31 {L : Nat} {xs : Nat → Int32} {d x : Nat} {M : qxM} {st : List Value} {ls : qxL} {z y : Int32} (h : ¬ y = 0) : Rs L xs (d) 44 31 ls (.int y :: .int z :: st) M x = Rs L xs (d) 44 32 ls (.int (z / y) :: st) M x := Rs_unless h c44_31 rfl
theorem c44_32 : qx_code 44 32 = some (32, .ireturn, 33, 0, 0, 0) := by decide +kernel
theorem s44_32 {L : Nat} {xs : Nat → Int32} {d x : Nat} {M : qxM} {ls : qxL} {z : Int32} : Rs L xs (d) 44 32 ls [.int z] M x = some (.inl (some (.int z)), M, x) := Rs_ret c44_32 rfl
theorem c45_0 : qx_code 45 0 = some (0, .iconst 0, 1, 0, 0, 0) := by decide +kernel
theorem s45_0 {L : Nat} {xs : Nat → Int32} {d x : Nat} {M : qxM} {st : List Value} {ls : qxL} : Rs L xs (d) 45 0 ls st M x = Rs L xs (d) 45 1 ls (.int (nI 0) :: st) M x := Rs_next c45_0 rfl
theorem c45_1 : qx_code 45 1 = some (1, .istore_n 1, 2, 0, 0, 0) := by decide +kernel
theorem s45_1i {L : Nat} {xs : Nat → Int32} {d x : Nat} {M : qxM} {st : List Value} {a1 a2 : Option Value} {z : Int32} {y : Int32} : Rs L xs (d) 45 1 [some (.int y), a1, a2] (.int z :: st) M x = Rs L xs (d) 45 2 [some (.int y), some (.int z), a2] st M x := Rs_next c45_1 rfl
theorem s45_1r {L : Nat} {xs : Nat → Int32} {d x : Nat} {M : qxM} {st : List Value} {a1 a2 : Option Value} {z : Int32} {y : Nat} : Rs L xs (d) 45 1 [some (.ref y), a1, a2] (.int z :: st) M x = Rs L xs (d) 45 2 [some (.ref y), some (.int z), a2] st M x := Rs_next c45_1 rfl
theorem s45_1n {L : Nat} {xs : Nat → Int32} {d x : Nat} {M : qxM} {st : List Value} {a1 a2 : Option Value} {z : Int32} : Rs L xs (d) 45 1 [none, a1, a2] (.int z :: st) M x = Rs L xs (d) 45 2 [none, some (.int z), a2] st M x := Rs_next c45_1 rfl
theorem c45_2 : qx_code 45 2 = some (2, .iconst 0, 3, 0, 0, 0) := by decide +kernel
theorem s45_2 {L : Nat} {xs : Nat → Int32} {d x : Nat} {M : qxM} {st : List Value} {ls : qxL} : Rs L xs (d) 45 2 ls st M x = Rs L xs (d) 45 3 ls (.int (nI 0) :: st) M x := Rs_next c45_2 rfl
theorem c45_3 : qx_code 45 3 = some (3, .istore_n 2, 4, 0, 0, 0) := by decide +kernel
theorem s45_3i {L : Nat} {xs : Nat → Int32} {d x : Nat} {M : qxM} {st : List Value} {a0 a2 : Option Value} {z : Int32} {y : Int32} : Rs L xs (d) 45 3 [a0, some (.int y), a2] (.int z :: st) M x = Rs L xs (d) 45 4 [a0, some (.int y), some (.int z)] st M x := Rs_next c45_3 rfl
theorem s45_3r {L : Nat} {xs : Nat → Int32} {d x : Nat} {M : qxM} {st : List Value} {a0 a2 : Option Value} {z : Int32} {y : Nat} : Rs L xs (d) 45 3 [a0, some (.ref y), a2] (.int z :: st) M x = Rs L xs (d) 45 4 [a0, some (.ref y), some (.int z)] st M x := Rs_next c45_3 rfl
theorem s45_3n {L : Nat} {xs : Nat → Int32} {d x : Nat} {M : qxM} {st : List Value} {a0 a2 : Option Value} {z : Int32} : Rs L xs (d) 45 3 [a0, none, a2] (.int z :: st) M x = Rs L xs (d) 45 4 [a0, none, some (.int z)] st M x := Rs_next c45_3 rfl
theorem c45_4 : qx_code 45 4 = some (4, .iload_n 2, 5, 0, 0, 0) := by decide +kernel
theorem s45_4 {L : Nat} {xs : Nat → Int32} {d x : Nat} {M : qxM} {st : List Value} {a0 a1 : Option Value} {z : Int32} : Rs L xs (d) 45 4 [a0, a1, some (.int z)] st M x = Rs L xs (d) 45 5 [a0, a1, some (.int z)] (.int z :: st) M x := Rs_next c45_4 rfl
theorem c45_5 : qx_code 45 5 = some (5, .aload_n 0, 6, 0, 0, 0) := by decide +kernel
theorem s45_5 {L : Nat} {xs : Nat → Int32} {d x : Nat} {M : qxM} {st : List Value} {a1 a2 : Option Value} {z : Nat} : Rs L xs (d) 45 5 [some (.ref z), a1, a2] st M x = Rs L xs (d) 45 6 [some (.ref z), a1, a2] (.ref z :: st) M x := Rs_next c45_5 rfl
theorem c45_6 : qx_code 45 6 = some (6, .getfield 18, 9, 2, 0, 165) := by decide +kernel
theorem s45_6 {L : Nat} {xs : Nat → Int32} {d x : Nat} {M : qxM} {st : List Value} {ls : qxL} {t : Nat} (hk : qx_kd t = 12) : Rs L xs (d) 45 6 ls (.ref t :: st) M x = Rs L xs (d) 45 9 ls (.int (M.1 t 0) :: st) M x := Rs_when (qx_kd_obj (k := 2) (by decide) hk) c45_6 rfl
theorem c45_9 : qx_code 45 9 = some (9, .if_icmp .ge 20, 12, 29, 0, 0) := by decide +kernel
theorem s45_9 {L : Nat} {xs : Nat → Int32} {d x : Nat} {M : qxM} {st : List Value} {ls : qxL} {z y : Int32} : Rs L xs (d) 45 9 ls (.int y :: .int z :: st) M x = if y ≤ z then Rs L xs (d) 45 29 ls st M x else Rs L xs (d) 45 12 ls st M x := Rs_ite c45_9 rfl
theorem c45_12 : qx_code 45 12 = some (12, .iload_n 1, 13, 0, 0, 0) := by decide +kernel
theorem s45_12 {L : Nat} {xs : Nat → Int32} {d x : Nat} {M : qxM} {st : List Value} {a0 a2 : Option Value} {z : Int32} : Rs L xs (d) 45 12 [a0, some (.int z), a2] st M x = Rs L xs (d) 45 13 [a0, some (.int z), a2] (.int z :: st) M x := Rs_next c45_12 rfl
theorem c45_13 : qx_code 45 13 = some (13, .aload_n 0, 14, 0, 0, 0) := by decide +kernel
theorem s45_13 {L : Nat} {xs : Nat → Int32} {d x : Nat} {M : qxM} {st : List Value} {a1 a2 : Option Value} {z : Nat} : Rs L xs (d) 45 13 [some (.ref z), a1, a2] st M x = Rs L xs (d) 45 14 [some (.ref z), a1, a2] (.ref z :: st) M x := Rs_next c45_13 rfl
theorem c45_14 : qx_code 45 14 = some (14, .iload_n 2, 15, 0, 0, 0) := by decide +kernel
theorem s45_14 {L : Nat} {xs : Nat → Int32} {d x : Nat} {M : qxM} {st : List Value} {a0 a1 : Option Value} {z : Int32} : Rs L xs (d) 45 14 [a0, a1, some (.int z)] st M x = Rs L xs (d) 45 15 [a0, a1, some (.int z)] (.int z :: st) M x := Rs_next c45_14 rfl
theorem c45_15 : qx_code 45 15 = some (15, .invokevirtual 63, 18, 42, 2, 678) := by decide +kernel
theorem s45_15 {L : Nat} {xs : Nat → Int32} {d x : Nat} {M : qxM} {st : List Value} {ls : qxL} {t : Nat} {z0 : Int32} (hk : qx_kd t = 12) (hs : st.length ≤ 4) : Rs L xs (d + 1) 45 15 ls (.int z0 :: .ref t :: st) M x = (Rs L xs d 42 0 [some (.ref t), some (.int z0)] [] M 0).bind (qx_kn L xs (d + 1) 45 15 18 42 ls st x) := by
  have h1 : qx_act L xs (qx_rt 45) (15, .invokevirtual 63, 18, 42, 2, 678) ls (.int z0 :: .ref t :: st) M = if 2 ≤ (.int z0 :: .ref t :: st).length ∧ st.length ≤ 4 then some (.inr (.inr (.inr (42, [.ref t, .int z0], st)))) else none := rfl
  rw [if_pos ⟨by simp [List.length_cons]; try omega, hs⟩] at h1
  have h2 := qx_kd_obj (k := 2) (by decide) hk
  exact Rs_call c45_15 h1 (by rw [show qx_args 42 [.ref t, .int z0] = decide (qx_sh t = some (.inl 2)) from rfl]; exact decide_eq_true h2)
theorem c45_18 : qx_code 45 18 = some (18, .invokestatic 58, 21, 334, 1, 757) := by decide +kernel
theorem s45_18 {L : Nat} {xs : Nat → Int32} {d x : Nat} {M : qxM} {st : List Value} {ls : qxL} {z0 : Int32} (hs : st.length ≤ 4) : Rs L xs (d + 1) 45 18 ls (.int z0 :: st) M x = (Rs L xs d 334 0 [some (.int z0)] [] M 0).bind (qx_kn L xs (d + 1) 45 18 21 334 ls st x) := by
  have h1 : qx_act L xs (qx_rt 45) (18, .invokestatic 58, 21, 334, 1, 757) ls (.int z0 :: st) M = if 1 ≤ (.int z0 :: st).length ∧ st.length ≤ 4 then some (.inr (.inr (.inr (334, [.int z0], st)))) else none := rfl
  rw [if_pos ⟨by simp [List.length_cons]; try omega, hs⟩] at h1
  exact Rs_call c45_18 h1 rfl
theorem c45_21 : qx_code 45 21 = some (21, .iadd, 22, 0, 0, 0) := by decide +kernel
theorem s45_21 {L : Nat} {xs : Nat → Int32} {d x : Nat} {M : qxM} {st : List Value} {ls : qxL} {z y : Int32} : Rs L xs (d) 45 21 ls (.int y :: .int z :: st) M x = Rs L xs (d) 45 22 ls (.int (z + y) :: st) M x := Rs_next c45_21 rfl
theorem c45_22 : qx_code 45 22 = some (22, .istore_n 1, 23, 0, 0, 0) := by decide +kernel
theorem s45_22i {L : Nat} {xs : Nat → Int32} {d x : Nat} {M : qxM} {st : List Value} {a1 a2 : Option Value} {z : Int32} {y : Int32} : Rs L xs (d) 45 22 [some (.int y), a1, a2] (.int z :: st) M x = Rs L xs (d) 45 23 [some (.int y), some (.int z), a2] st M x := Rs_next c45_22 rfl
theorem s45_22r {L : Nat} {xs : Nat → Int32} {d x : Nat} {M : qxM} {st : List Value} {a1 a2 : Option Value} {z : Int32} {y : Nat} : Rs L xs (d) 45 22 [some (.ref y), a1, a2] (.int z :: st) M x = Rs L xs (d) 45 23 [some (.ref y), some (.int z), a2] st M x := Rs_next c45_22 rfl
theorem s45_22n {L : Nat} {xs : Nat → Int32} {d x : Nat} {M : qxM} {st : List Value} {a1 a2 : Option Value} {z : Int32} : Rs L xs (d) 45 22 [none, a1, a2] (.int z :: st) M x = Rs L xs (d) 45 23 [none, some (.int z), a2] st M x := Rs_next c45_22 rfl
theorem c45_23 : qx_code 45 23 = some (23, .iinc 2 1, 26, 0, 0, 0) := by decide +kernel
theorem s45_23i {L : Nat} {xs : Nat → Int32} {d x : Nat} {M : qxM} {st : List Value} {a0 : Option Value} {z : Int32} {y : Int32} : Rs L xs (d) 45 23 [a0, some (.int y), some (.int z)] st M x = Rs L xs (d) 45 26 [a0, some (.int y), some (.int (z + (nI 1)))] st M x := Rs_next c45_23 rfl
theorem s45_23r {L : Nat} {xs : Nat → Int32} {d x : Nat} {M : qxM} {st : List Value} {a0 : Option Value} {z : Int32} {y : Nat} : Rs L xs (d) 45 23 [a0, some (.ref y), some (.int z)] st M x = Rs L xs (d) 45 26 [a0, some (.ref y), some (.int (z + (nI 1)))] st M x := Rs_next c45_23 rfl
theorem s45_23n {L : Nat} {xs : Nat → Int32} {d x : Nat} {M : qxM} {st : List Value} {a0 : Option Value} {z : Int32} : Rs L xs (d) 45 23 [a0, none, some (.int z)] st M x = Rs L xs (d) 45 26 [a0, none, some (.int (z + (nI 1)))] st M x := Rs_next c45_23 rfl
theorem c45_26 : qx_code 45 26 = some (26, .goto (-22), 29, 4, 0, 0) := by decide +kernel
theorem s45_26 {L : Nat} {xs : Nat → Int32} {d x : Nat} {M : qxM} {st : List Value} {ls : qxL} : Rs L xs (d) 45 26 ls st M x = Rs L xs (d) 45 4 ls st M x := Rs_next c45_26 rfl
theorem c45_29 : qx_code 45 29 = some (29, .iload_n 1, 30, 0, 0, 0) := by decide +kernel
theorem s45_29 {L : Nat} {xs : Nat → Int32} {d x : Nat} {M : qxM} {st : List Value} {a0 a2 : Option Value} {z : Int32} : Rs L xs (d) 45 29 [a0, some (.int z), a2] st M x = Rs L xs (d) 45 30 [a0, some (.int z), a2] (.int z :: st) M x := Rs_next c45_29 rfl
theorem c45_30 : qx_code 45 30 = some (30, .iconst 2, 31, 0, 0, 0) := by decide +kernel
theorem s45_30 {L : Nat} {xs : Nat → Int32} {d x : Nat} {M : qxM} {st : List Value} {ls : qxL} : Rs L xs (d) 45 30 ls st M x = Rs L xs (d) 45 31 ls (.int (nI 2) :: st) M x := Rs_next c45_30 rfl
theorem c45_31 : qx_code 45 31 = some (31, .idiv, 32, 0, 0, 0) := by decide +kernel
theorem s45_31 {L : Nat} {xs : Nat → Int32} {d x : Nat} {M : qxM} {st : List Value} {ls : qxL} {z y : Int32} (h : ¬ y = 0) : Rs L xs (d) 45 31 ls (.int y :: .int z :: st) M x = Rs L xs (d) 45 32 ls (.int (z / y) :: st) M x := Rs_unless h c45_31 rfl
theorem c45_32 : qx_code 45 32 = some (32, .ireturn, 33, 0, 0, 0) := by decide +kernel
theorem s45_32 {L : Nat} {xs : Nat → Int32} {d x : Nat} {M : qxM} {ls : qxL} {z : Int32} : Rs L xs (d) 45 32 ls [.int z] M x = some (.inl (some (.int z)), M, x) := Rs_ret c45_32 rfl
theorem c46_0 : qx_code 46 0 = some (0, .iload_n 1, 1, 0, 0, 0) := by decide +kernel
theorem s46_0 {L : Nat} {xs : Nat → Int32} {d x : Nat} {M : qxM} {st : List Value} {a0 : Option Value} {z : Int32} : Rs L xs (d) 46 0 [a0, some (.int z)] st M x = Rs L xs (d) 46 1 [a0, some (.int z)] (.int z :: st) M x := Rs_next c46_0 rfl
theorem c46_1 : qx_code 46 1 = some (1, .ifCond .lt 21, 4, 22, 0, 0) := by decide +kernel
theorem s46_1 {L : Nat} {xs : Nat → Int32} {d x : Nat} {M : qxM} {st : List Value} {ls : qxL} {z : Int32} : Rs L xs (d) 46 1 ls (.int z :: st) M x = if z < 0 then Rs L xs (d) 46 22 ls st M x else Rs L xs (d) 46 4 ls st M x := Rs_ite c46_1 rfl
theorem c46_4 : qx_code 46 4 = some (4, .iload_n 1, 5, 0, 0, 0) := by decide +kernel
theorem s46_4 {L : Nat} {xs : Nat → Int32} {d x : Nat} {M : qxM} {st : List Value} {a0 : Option Value} {z : Int32} : Rs L xs (d) 46 4 [a0, some (.int z)] st M x = Rs L xs (d) 46 5 [a0, some (.int z)] (.int z :: st) M x := Rs_next c46_4 rfl
theorem c46_5 : qx_code 46 5 = some (5, .aload_n 0, 6, 0, 0, 0) := by decide +kernel
theorem s46_5 {L : Nat} {xs : Nat → Int32} {d x : Nat} {M : qxM} {st : List Value} {a1 : Option Value} {z : Nat} : Rs L xs (d) 46 5 [some (.ref z), a1] st M x = Rs L xs (d) 46 6 [some (.ref z), a1] (.ref z :: st) M x := Rs_next c46_5 rfl
theorem c46_6 : qx_code 46 6 = some (6, .getfield 15, 9, 2, 4, 174) := by decide +kernel
theorem s46_6 {L : Nat} {xs : Nat → Int32} {d x : Nat} {M : qxM} {st : List Value} {ls : qxL} {t : Nat} (hk : qx_kd t = 12) : Rs L xs (d) 46 6 ls (.ref t :: st) M x = Rs L xs (d) 46 9 ls (.ref (t + 2) :: st) M x := Rs_when (qx_kd_obj (k := 2) (by decide) hk) c46_6 rfl
theorem c46_9 : qx_code 46 9 = some (9, .arraylength, 10, 0, 0, 0) := by decide +kernel
theorem s46_9 {L : Nat} {xs : Nat → Int32} {d x : Nat} {M : qxM} {st : List Value} {ls : qxL} {t : Nat} (hk : qx_kd t < 6) : Rs L xs (d) 46 9 ls (.ref t :: st) M x = Rs L xs (d) 46 10 ls (.int (nI (qx_ln t)) :: st) M x := by
  have h1 := qx_kd_row hk rfl
  exact Rs_next c46_9 (by unfold qx_act; dsimp only; rw [h1]; rfl)
theorem c46_10 : qx_code 46 10 = some (10, .if_icmp .ge 12, 13, 22, 0, 0) := by decide +kernel
theorem s46_10 {L : Nat} {xs : Nat → Int32} {d x : Nat} {M : qxM} {st : List Value} {ls : qxL} {z y : Int32} : Rs L xs (d) 46 10 ls (.int y :: .int z :: st) M x = if y ≤ z then Rs L xs (d) 46 22 ls st M x else Rs L xs (d) 46 13 ls st M x := Rs_ite c46_10 rfl
theorem c46_13 : qx_code 46 13 = some (13, .aload_n 0, 14, 0, 0, 0) := by decide +kernel
theorem s46_13 {L : Nat} {xs : Nat → Int32} {d x : Nat} {M : qxM} {st : List Value} {a1 : Option Value} {z : Nat} : Rs L xs (d) 46 13 [some (.ref z), a1] st M x = Rs L xs (d) 46 14 [some (.ref z), a1] (.ref z :: st) M x := Rs_next c46_13 rfl
theorem c46_14 : qx_code 46 14 = some (14, .getfield 15, 17, 2, 4, 174) := by decide +kernel
theorem s46_14 {L : Nat} {xs : Nat → Int32} {d x : Nat} {M : qxM} {st : List Value} {ls : qxL} {t : Nat} (hk : qx_kd t = 12) : Rs L xs (d) 46 14 ls (.ref t :: st) M x = Rs L xs (d) 46 17 ls (.ref (t + 2) :: st) M x := Rs_when (qx_kd_obj (k := 2) (by decide) hk) c46_14 rfl
theorem c46_17 : qx_code 46 17 = some (17, .iload_n 1, 18, 0, 0, 0) := by decide +kernel
theorem s46_17 {L : Nat} {xs : Nat → Int32} {d x : Nat} {M : qxM} {st : List Value} {a0 : Option Value} {z : Int32} : Rs L xs (d) 46 17 [a0, some (.int z)] st M x = Rs L xs (d) 46 18 [a0, some (.int z)] (.int z :: st) M x := Rs_next c46_17 rfl
theorem c46_18 : qx_code 46 18 = some (18, .iaload, 19, 0, 0, 0) := by decide +kernel
theorem s46_18 {L : Nat} {xs : Nat → Int32} {d x : Nat} {M : qxM} {st : List Value} {ls : qxL} {t : Nat} {j : Int32} (hk : qx_kd t = 0) (hj : qx_ib j (qx_ln t) = true) : Rs L xs (d) 46 18 ls (.int j :: .ref t :: st) M x = Rs L xs (d) 46 19 ls (.int (M.1 t j.toNatClampNeg) :: st) M x := by
  have h1 := qx_kd_row (k := 0) (by decide) hk
  exact Rs_unless (qx_ib_not hj) c46_18 (by unfold qx_act; dsimp only; rw [h1]; rfl)
theorem c46_19 : qx_code 46 19 = some (19, .goto 4, 22, 23, 0, 0) := by decide +kernel
theorem s46_19 {L : Nat} {xs : Nat → Int32} {d x : Nat} {M : qxM} {st : List Value} {ls : qxL} : Rs L xs (d) 46 19 ls st M x = Rs L xs (d) 46 23 ls st M x := Rs_next c46_19 rfl
theorem c46_22 : qx_code 46 22 = some (22, .iconst (-1), 23, 0, 0, 0) := by decide +kernel
theorem s46_22 {L : Nat} {xs : Nat → Int32} {d x : Nat} {M : qxM} {st : List Value} {ls : qxL} : Rs L xs (d) 46 22 ls st M x = Rs L xs (d) 46 23 ls (.int (-1) :: st) M x := Rs_next c46_22 rfl
theorem c46_23 : qx_code 46 23 = some (23, .ireturn, 24, 0, 0, 0) := by decide +kernel
theorem s46_23 {L : Nat} {xs : Nat → Int32} {d x : Nat} {M : qxM} {ls : qxL} {z : Int32} : Rs L xs (d) 46 23 ls [.int z] M x = some (.inl (some (.int z)), M, x) := Rs_ret c46_23 rfl
theorem c47_0 : qx_code 47 0 = some (0, .aload_n 0, 1, 0, 0, 0) := by decide +kernel
theorem s47_0 {L : Nat} {xs : Nat → Int32} {d x : Nat} {M : qxM} {st : List Value} {a1 : Option Value} {z : Nat} : Rs L xs (d) 47 0 [some (.ref z), a1] st M x = Rs L xs (d) 47 1 [some (.ref z), a1] (.ref z :: st) M x := Rs_next c47_0 rfl
theorem c47_1 : qx_code 47 1 = some (1, .iload_n 1, 2, 0, 0, 0) := by decide +kernel
theorem s47_1 {L : Nat} {xs : Nat → Int32} {d x : Nat} {M : qxM} {st : List Value} {a0 : Option Value} {z : Int32} : Rs L xs (d) 47 1 [a0, some (.int z)] st M x = Rs L xs (d) 47 2 [a0, some (.int z)] (.int z :: st) M x := Rs_next c47_1 rfl
theorem c47_2 : qx_code 47 2 = some (2, .invokevirtual 66, 5, 46, 2, 634) := by decide +kernel
theorem s47_2 {L : Nat} {xs : Nat → Int32} {d x : Nat} {M : qxM} {st : List Value} {ls : qxL} {t : Nat} {z0 : Int32} (hk : qx_kd t = 12) (hs : st.length ≤ 4) : Rs L xs (d + 1) 47 2 ls (.int z0 :: .ref t :: st) M x = (Rs L xs d 46 0 [some (.ref t), some (.int z0)] [] M 0).bind (qx_kn L xs (d + 1) 47 2 5 46 ls st x) := by
  have h1 : qx_act L xs (qx_rt 47) (2, .invokevirtual 66, 5, 46, 2, 634) ls (.int z0 :: .ref t :: st) M = if 2 ≤ (.int z0 :: .ref t :: st).length ∧ st.length ≤ 4 then some (.inr (.inr (.inr (46, [.ref t, .int z0], st)))) else none := rfl
  rw [if_pos ⟨by simp [List.length_cons]; try omega, hs⟩] at h1
  have h2 := qx_kd_obj (k := 2) (by decide) hk
  exact Rs_call c47_2 h1 (by rw [show qx_args 46 [.ref t, .int z0] = decide (qx_sh t = some (.inl 2)) from rfl]; exact decide_eq_true h2)
theorem c47_5 : qx_code 47 5 = some (5, .iconst (-1), 6, 0, 0, 0) := by decide +kernel
theorem s47_5 {L : Nat} {xs : Nat → Int32} {d x : Nat} {M : qxM} {st : List Value} {ls : qxL} : Rs L xs (d) 47 5 ls st M x = Rs L xs (d) 47 6 ls (.int (-1) :: st) M x := Rs_next c47_5 rfl
theorem c47_6 : qx_code 47 6 = some (6, .if_icmp .ne 7, 9, 13, 0, 0) := by decide +kernel
theorem s47_6 {L : Nat} {xs : Nat → Int32} {d x : Nat} {M : qxM} {st : List Value} {ls : qxL} {z y : Int32} : Rs L xs (d) 47 6 ls (.int y :: .int z :: st) M x = if z = y then Rs L xs (d) 47 9 ls st M x else Rs L xs (d) 47 13 ls st M x := Rs_ite c47_6 rfl
theorem c47_9 : qx_code 47 9 = some (9, .iconst 1, 10, 0, 0, 0) := by decide +kernel
theorem s47_9 {L : Nat} {xs : Nat → Int32} {d x : Nat} {M : qxM} {st : List Value} {ls : qxL} : Rs L xs (d) 47 9 ls st M x = Rs L xs (d) 47 10 ls (.int (nI 1) :: st) M x := Rs_next c47_9 rfl
theorem c47_10 : qx_code 47 10 = some (10, .goto 4, 13, 14, 0, 0) := by decide +kernel
theorem s47_10 {L : Nat} {xs : Nat → Int32} {d x : Nat} {M : qxM} {st : List Value} {ls : qxL} : Rs L xs (d) 47 10 ls st M x = Rs L xs (d) 47 14 ls st M x := Rs_next c47_10 rfl
theorem c47_13 : qx_code 47 13 = some (13, .iconst 0, 14, 0, 0, 0) := by decide +kernel
theorem s47_13 {L : Nat} {xs : Nat → Int32} {d x : Nat} {M : qxM} {st : List Value} {ls : qxL} : Rs L xs (d) 47 13 ls st M x = Rs L xs (d) 47 14 ls (.int (nI 0) :: st) M x := Rs_next c47_13 rfl
theorem c47_14 : qx_code 47 14 = some (14, .ireturn, 15, 0, 0, 0) := by decide +kernel
theorem s47_14 {L : Nat} {xs : Nat → Int32} {d x : Nat} {M : qxM} {ls : qxL} {z : Int32} (h01 : z = 0 ∨ z = 1) : Rs L xs (d) 47 14 ls [.int z] M x = some (.inl (some (.int z)), M, x) := Rs_retw h01 c47_14 rfl
theorem c48_0 : qx_code 48 0 = some (0, .iconst 0, 1, 0, 0, 0) := by decide +kernel
theorem s48_0 {L : Nat} {xs : Nat → Int32} {d x : Nat} {M : qxM} {st : List Value} {ls : qxL} : Rs L xs (d) 48 0 ls st M x = Rs L xs (d) 48 1 ls (.int (nI 0) :: st) M x := Rs_next c48_0 rfl
theorem c48_1 : qx_code 48 1 = some (1, .istore_n 1, 2, 0, 0, 0) := by decide +kernel
theorem s48_1i {L : Nat} {xs : Nat → Int32} {d x : Nat} {M : qxM} {st : List Value} {a1 a2 : Option Value} {z : Int32} {y : Int32} : Rs L xs (d) 48 1 [some (.int y), a1, a2] (.int z :: st) M x = Rs L xs (d) 48 2 [some (.int y), some (.int z), a2] st M x := Rs_next c48_1 rfl
theorem s48_1r {L : Nat} {xs : Nat → Int32} {d x : Nat} {M : qxM} {st : List Value} {a1 a2 : Option Value} {z : Int32} {y : Nat} : Rs L xs (d) 48 1 [some (.ref y), a1, a2] (.int z :: st) M x = Rs L xs (d) 48 2 [some (.ref y), some (.int z), a2] st M x := Rs_next c48_1 rfl
theorem s48_1n {L : Nat} {xs : Nat → Int32} {d x : Nat} {M : qxM} {st : List Value} {a1 a2 : Option Value} {z : Int32} : Rs L xs (d) 48 1 [none, a1, a2] (.int z :: st) M x = Rs L xs (d) 48 2 [none, some (.int z), a2] st M x := Rs_next c48_1 rfl
theorem c48_2 : qx_code 48 2 = some (2, .iconst 0, 3, 0, 0, 0) := by decide +kernel
theorem s48_2 {L : Nat} {xs : Nat → Int32} {d x : Nat} {M : qxM} {st : List Value} {ls : qxL} : Rs L xs (d) 48 2 ls st M x = Rs L xs (d) 48 3 ls (.int (nI 0) :: st) M x := Rs_next c48_2 rfl
theorem c48_3 : qx_code 48 3 = some (3, .istore_n 2, 4, 0, 0, 0) := by decide +kernel
theorem s48_3i {L : Nat} {xs : Nat → Int32} {d x : Nat} {M : qxM} {st : List Value} {a0 a2 : Option Value} {z : Int32} {y : Int32} : Rs L xs (d) 48 3 [a0, some (.int y), a2] (.int z :: st) M x = Rs L xs (d) 48 4 [a0, some (.int y), some (.int z)] st M x := Rs_next c48_3 rfl
theorem s48_3r {L : Nat} {xs : Nat → Int32} {d x : Nat} {M : qxM} {st : List Value} {a0 a2 : Option Value} {z : Int32} {y : Nat} : Rs L xs (d) 48 3 [a0, some (.ref y), a2] (.int z :: st) M x = Rs L xs (d) 48 4 [a0, some (.ref y), some (.int z)] st M x := Rs_next c48_3 rfl
theorem s48_3n {L : Nat} {xs : Nat → Int32} {d x : Nat} {M : qxM} {st : List Value} {a0 a2 : Option Value} {z : Int32} : Rs L xs (d) 48 3 [a0, none, a2] (.int z :: st) M x = Rs L xs (d) 48 4 [a0, none, some (.int z)] st M x := Rs_next c48_3 rfl
theorem c48_4 : qx_code 48 4 = some (4, .iload_n 2, 5, 0, 0, 0) := by decide +kernel
theorem s48_4 {L : Nat} {xs : Nat → Int32} {d x : Nat} {M : qxM} {st : List Value} {a0 a1 : Option Value} {z : Int32} : Rs L xs (d) 48 4 [a0, a1, some (.int z)] st M x = Rs L xs (d) 48 5 [a0, a1, some (.int z)] (.int z :: st) M x := Rs_next c48_4 rfl
theorem c48_5 : qx_code 48 5 = some (5, .aload_n 0, 6, 0, 0, 0) := by decide +kernel
theorem s48_5 {L : Nat} {xs : Nat → Int32} {d x : Nat} {M : qxM} {st : List Value} {a1 a2 : Option Value} {z : Nat} : Rs L xs (d) 48 5 [some (.ref z), a1, a2] st M x = Rs L xs (d) 48 6 [some (.ref z), a1, a2] (.ref z :: st) M x := Rs_next c48_5 rfl
theorem c48_6 : qx_code 48 6 = some (6, .getfield 18, 9, 2, 0, 165) := by decide +kernel
theorem s48_6 {L : Nat} {xs : Nat → Int32} {d x : Nat} {M : qxM} {st : List Value} {ls : qxL} {t : Nat} (hk : qx_kd t = 12) : Rs L xs (d) 48 6 ls (.ref t :: st) M x = Rs L xs (d) 48 9 ls (.int (M.1 t 0) :: st) M x := Rs_when (qx_kd_obj (k := 2) (by decide) hk) c48_6 rfl
theorem c48_9 : qx_code 48 9 = some (9, .if_icmp .ge 25, 12, 34, 0, 0) := by decide +kernel
theorem s48_9 {L : Nat} {xs : Nat → Int32} {d x : Nat} {M : qxM} {st : List Value} {ls : qxL} {z y : Int32} : Rs L xs (d) 48 9 ls (.int y :: .int z :: st) M x = if y ≤ z then Rs L xs (d) 48 34 ls st M x else Rs L xs (d) 48 12 ls st M x := Rs_ite c48_9 rfl
theorem c48_12 : qx_code 48 12 = some (12, .iload_n 1, 13, 0, 0, 0) := by decide +kernel
theorem s48_12 {L : Nat} {xs : Nat → Int32} {d x : Nat} {M : qxM} {st : List Value} {a0 a2 : Option Value} {z : Int32} : Rs L xs (d) 48 12 [a0, some (.int z), a2] st M x = Rs L xs (d) 48 13 [a0, some (.int z), a2] (.int z :: st) M x := Rs_next c48_12 rfl
theorem c48_13 : qx_code 48 13 = some (13, .aload_n 0, 14, 0, 0, 0) := by decide +kernel
theorem s48_13 {L : Nat} {xs : Nat → Int32} {d x : Nat} {M : qxM} {st : List Value} {a1 a2 : Option Value} {z : Nat} : Rs L xs (d) 48 13 [some (.ref z), a1, a2] st M x = Rs L xs (d) 48 14 [some (.ref z), a1, a2] (.ref z :: st) M x := Rs_next c48_13 rfl
theorem c48_14 : qx_code 48 14 = some (14, .iload_n 2, 15, 0, 0, 0) := by decide +kernel
theorem s48_14 {L : Nat} {xs : Nat → Int32} {d x : Nat} {M : qxM} {st : List Value} {a0 a1 : Option Value} {z : Int32} : Rs L xs (d) 48 14 [a0, a1, some (.int z)] st M x = Rs L xs (d) 48 15 [a0, a1, some (.int z)] (.int z :: st) M x := Rs_next c48_14 rfl
theorem c48_15 : qx_code 48 15 = some (15, .invokevirtual 69, 18, 47, 2, 771) := by decide +kernel
theorem s48_15 {L : Nat} {xs : Nat → Int32} {d x : Nat} {M : qxM} {st : List Value} {ls : qxL} {t : Nat} {z0 : Int32} (hk : qx_kd t = 12) (hs : st.length ≤ 4) : Rs L xs (d + 1) 48 15 ls (.int z0 :: .ref t :: st) M x = (Rs L xs d 47 0 [some (.ref t), some (.int z0)] [] M 0).bind (qx_kn L xs (d + 1) 48 15 18 47 ls st x) := by
  have h1 : qx_act L xs (qx_rt 48) (15, .invokevirtual 69, 18, 47, 2, 771) ls (.int z0 :: .ref t :: st) M = if 2 ≤ (.int z0 :: .ref t :: st).length ∧ st.length ≤ 4 then some (.inr (.inr (.inr (47, [.ref t, .int z0], st)))) else none := rfl
  rw [if_pos ⟨by simp [List.length_cons]; try omega, hs⟩] at h1
  have h2 := qx_kd_obj (k := 2) (by decide) hk
  exact Rs_call c48_15 h1 (by rw [show qx_args 47 [.ref t, .int z0] = decide (qx_sh t = some (.inl 2)) from rfl]; exact decide_eq_true h2)
theorem c48_18 : qx_code 48 18 = some (18, .ifCond .eq 7, 21, 25, 0, 0) := by decide +kernel
theorem s48_18 {L : Nat} {xs : Nat → Int32} {d x : Nat} {M : qxM} {st : List Value} {ls : qxL} {z : Int32} : Rs L xs (d) 48 18 ls (.int z :: st) M x = if z = 0 then Rs L xs (d) 48 25 ls st M x else Rs L xs (d) 48 21 ls st M x := Rs_ite c48_18 rfl
theorem c48_21 : qx_code 48 21 = some (21, .iconst 0, 22, 0, 0, 0) := by decide +kernel
theorem s48_21 {L : Nat} {xs : Nat → Int32} {d x : Nat} {M : qxM} {st : List Value} {ls : qxL} : Rs L xs (d) 48 21 ls st M x = Rs L xs (d) 48 22 ls (.int (nI 0) :: st) M x := Rs_next c48_21 rfl
theorem c48_22 : qx_code 48 22 = some (22, .goto 4, 25, 26, 0, 0) := by decide +kernel
theorem s48_22 {L : Nat} {xs : Nat → Int32} {d x : Nat} {M : qxM} {st : List Value} {ls : qxL} : Rs L xs (d) 48 22 ls st M x = Rs L xs (d) 48 26 ls st M x := Rs_next c48_22 rfl
theorem c48_25 : qx_code 48 25 = some (25, .iconst 1, 26, 0, 0, 0) := by decide +kernel
theorem s48_25 {L : Nat} {xs : Nat → Int32} {d x : Nat} {M : qxM} {st : List Value} {ls : qxL} : Rs L xs (d) 48 25 ls st M x = Rs L xs (d) 48 26 ls (.int (nI 1) :: st) M x := Rs_next c48_25 rfl
theorem c48_26 : qx_code 48 26 = some (26, .iadd, 27, 0, 0, 0) := by decide +kernel
theorem s48_26 {L : Nat} {xs : Nat → Int32} {d x : Nat} {M : qxM} {st : List Value} {ls : qxL} {z y : Int32} : Rs L xs (d) 48 26 ls (.int y :: .int z :: st) M x = Rs L xs (d) 48 27 ls (.int (z + y) :: st) M x := Rs_next c48_26 rfl
theorem c48_27 : qx_code 48 27 = some (27, .istore_n 1, 28, 0, 0, 0) := by decide +kernel
theorem s48_27i {L : Nat} {xs : Nat → Int32} {d x : Nat} {M : qxM} {st : List Value} {a1 a2 : Option Value} {z : Int32} {y : Int32} : Rs L xs (d) 48 27 [some (.int y), a1, a2] (.int z :: st) M x = Rs L xs (d) 48 28 [some (.int y), some (.int z), a2] st M x := Rs_next c48_27 rfl
theorem s48_27r {L : Nat} {xs : Nat → Int32} {d x : Nat} {M : qxM} {st : List Value} {a1 a2 : Option Value} {z : Int32} {y : Nat} : Rs L xs (d) 48 27 [some (.ref y), a1, a2] (.int z :: st) M x = Rs L xs (d) 48 28 [some (.ref y), some (.int z), a2] st M x := Rs_next c48_27 rfl
theorem s48_27n {L : Nat} {xs : Nat → Int32} {d x : Nat} {M : qxM} {st : List Value} {a1 a2 : Option Value} {z : Int32} : Rs L xs (d) 48 27 [none, a1, a2] (.int z :: st) M x = Rs L xs (d) 48 28 [none, some (.int z), a2] st M x := Rs_next c48_27 rfl
theorem c48_28 : qx_code 48 28 = some (28, .iinc 2 1, 31, 0, 0, 0) := by decide +kernel
theorem s48_28i {L : Nat} {xs : Nat → Int32} {d x : Nat} {M : qxM} {st : List Value} {a0 : Option Value} {z : Int32} {y : Int32} : Rs L xs (d) 48 28 [a0, some (.int y), some (.int z)] st M x = Rs L xs (d) 48 31 [a0, some (.int y), some (.int (z + (nI 1)))] st M x := Rs_next c48_28 rfl
theorem s48_28r {L : Nat} {xs : Nat → Int32} {d x : Nat} {M : qxM} {st : List Value} {a0 : Option Value} {z : Int32} {y : Nat} : Rs L xs (d) 48 28 [a0, some (.ref y), some (.int z)] st M x = Rs L xs (d) 48 31 [a0, some (.ref y), some (.int (z + (nI 1)))] st M x := Rs_next c48_28 rfl
theorem s48_28n {L : Nat} {xs : Nat → Int32} {d x : Nat} {M : qxM} {st : List Value} {a0 : Option Value} {z : Int32} : Rs L xs (d) 48 28 [a0, none, some (.int z)] st M x = Rs L xs (d) 48 31 [a0, none, some (.int (z + (nI 1)))] st M x := Rs_next c48_28 rfl
theorem c48_31 : qx_code 48 31 = some (31, .goto (-27), 34, 4, 0, 0) := by decide +kernel
theorem s48_31 {L : Nat} {xs : Nat → Int32} {d x : Nat} {M : qxM} {st : List Value} {ls : qxL} : Rs L xs (d) 48 31 ls st M x = Rs L xs (d) 48 4 ls st M x := Rs_next c48_31 rfl
theorem c48_34 : qx_code 48 34 = some (34, .iload_n 1, 35, 0, 0, 0) := by decide +kernel
theorem s48_34 {L : Nat} {xs : Nat → Int32} {d x : Nat} {M : qxM} {st : List Value} {a0 a2 : Option Value} {z : Int32} : Rs L xs (d) 48 34 [a0, some (.int z), a2] st M x = Rs L xs (d) 48 35 [a0, some (.int z), a2] (.int z :: st) M x := Rs_next c48_34 rfl
theorem c48_35 : qx_code 48 35 = some (35, .iconst 2, 36, 0, 0, 0) := by decide +kernel
theorem s48_35 {L : Nat} {xs : Nat → Int32} {d x : Nat} {M : qxM} {st : List Value} {ls : qxL} : Rs L xs (d) 48 35 ls st M x = Rs L xs (d) 48 36 ls (.int (nI 2) :: st) M x := Rs_next c48_35 rfl
theorem c48_36 : qx_code 48 36 = some (36, .idiv, 37, 0, 0, 0) := by decide +kernel
theorem s48_36 {L : Nat} {xs : Nat → Int32} {d x : Nat} {M : qxM} {st : List Value} {ls : qxL} {z y : Int32} (h : ¬ y = 0) : Rs L xs (d) 48 36 ls (.int y :: .int z :: st) M x = Rs L xs (d) 48 37 ls (.int (z / y) :: st) M x := Rs_unless h c48_36 rfl
theorem c48_37 : qx_code 48 37 = some (37, .ireturn, 38, 0, 0, 0) := by decide +kernel
theorem s48_37 {L : Nat} {xs : Nat → Int32} {d x : Nat} {M : qxM} {ls : qxL} {z : Int32} : Rs L xs (d) 48 37 ls [.int z] M x = some (.inl (some (.int z)), M, x) := Rs_ret c48_37 rfl
theorem c49_0 : qx_code 49 0 = some (0, .aload_n 0, 1, 0, 0, 0) := by decide +kernel
theorem s49_0 {L : Nat} {xs : Nat → Int32} {d x : Nat} {M : qxM} {st : List Value} {a1 a2 : Option Value} {z : Nat} : Rs L xs (d) 49 0 [some (.ref z), a1, a2] st M x = Rs L xs (d) 49 1 [some (.ref z), a1, a2] (.ref z :: st) M x := Rs_next c49_0 rfl
theorem c49_1 : qx_code 49 1 = some (1, .getfield 15, 4, 2, 4, 174) := by decide +kernel
theorem s49_1 {L : Nat} {xs : Nat → Int32} {d x : Nat} {M : qxM} {st : List Value} {ls : qxL} {t : Nat} (hk : qx_kd t = 12) : Rs L xs (d) 49 1 ls (.ref t :: st) M x = Rs L xs (d) 49 4 ls (.ref (t + 2) :: st) M x := Rs_when (qx_kd_obj (k := 2) (by decide) hk) c49_1 rfl
theorem c49_4 : qx_code 49 4 = some (4, .iload_n 1, 5, 0, 0, 0) := by decide +kernel
theorem s49_4 {L : Nat} {xs : Nat → Int32} {d x : Nat} {M : qxM} {st : List Value} {a0 a2 : Option Value} {z : Int32} : Rs L xs (d) 49 4 [a0, some (.int z), a2] st M x = Rs L xs (d) 49 5 [a0, some (.int z), a2] (.int z :: st) M x := Rs_next c49_4 rfl
theorem c49_5 : qx_code 49 5 = some (5, .iload_n 2, 6, 0, 0, 0) := by decide +kernel
theorem s49_5 {L : Nat} {xs : Nat → Int32} {d x : Nat} {M : qxM} {st : List Value} {a0 a1 : Option Value} {z : Int32} : Rs L xs (d) 49 5 [a0, a1, some (.int z)] st M x = Rs L xs (d) 49 6 [a0, a1, some (.int z)] (.int z :: st) M x := Rs_next c49_5 rfl
theorem c49_6 : qx_code 49 6 = some (6, .invokestatic 47, 9, 174, 3, 666) := by decide +kernel
theorem s49_6 {L : Nat} {xs : Nat → Int32} {d x : Nat} {M : qxM} {st : List Value} {ls : qxL} {z0 : Nat} {z1 : Int32} {z2 : Int32} (hs : st.length ≤ 4) : Rs L xs (d + 1) 49 6 ls (.int z2 :: .int z1 :: .ref z0 :: st) M x = (Rs L xs d 174 0 [some (.ref z0), some (.int z1), some (.int z2)] [] M 0).bind (qx_kn L xs (d + 1) 49 6 9 174 ls st x) := by
  have h1 : qx_act L xs (qx_rt 49) (6, .invokestatic 47, 9, 174, 3, 666) ls (.int z2 :: .int z1 :: .ref z0 :: st) M = if 3 ≤ (.int z2 :: .int z1 :: .ref z0 :: st).length ∧ st.length ≤ 4 then some (.inr (.inr (.inr (174, [.ref z0, .int z1, .int z2], st)))) else none := rfl
  rw [if_pos ⟨by simp [List.length_cons]; try omega, hs⟩] at h1
  exact Rs_call c49_6 h1 rfl
theorem c49_9 : qx_code 49 9 = some (9, .aload_n 0, 10, 0, 0, 0) := by decide +kernel
theorem s49_9 {L : Nat} {xs : Nat → Int32} {d x : Nat} {M : qxM} {st : List Value} {a1 a2 : Option Value} {z : Nat} : Rs L xs (d) 49 9 [some (.ref z), a1, a2] st M x = Rs L xs (d) 49 10 [some (.ref z), a1, a2] (.ref z :: st) M x := Rs_next c49_9 rfl
theorem c49_10 : qx_code 49 10 = some (10, .getfield 15, 13, 2, 4, 174) := by decide +kernel
theorem s49_10 {L : Nat} {xs : Nat → Int32} {d x : Nat} {M : qxM} {st : List Value} {ls : qxL} {t : Nat} (hk : qx_kd t = 12) : Rs L xs (d) 49 10 ls (.ref t :: st) M x = Rs L xs (d) 49 13 ls (.ref (t + 2) :: st) M x := Rs_when (qx_kd_obj (k := 2) (by decide) hk) c49_10 rfl
theorem c49_13 : qx_code 49 13 = some (13, .iload_n 2, 14, 0, 0, 0) := by decide +kernel
theorem s49_13 {L : Nat} {xs : Nat → Int32} {d x : Nat} {M : qxM} {st : List Value} {a0 a1 : Option Value} {z : Int32} : Rs L xs (d) 49 13 [a0, a1, some (.int z)] st M x = Rs L xs (d) 49 14 [a0, a1, some (.int z)] (.int z :: st) M x := Rs_next c49_13 rfl
theorem c49_14 : qx_code 49 14 = some (14, .iload_n 1, 15, 0, 0, 0) := by decide +kernel
theorem s49_14 {L : Nat} {xs : Nat → Int32} {d x : Nat} {M : qxM} {st : List Value} {a0 a2 : Option Value} {z : Int32} : Rs L xs (d) 49 14 [a0, some (.int z), a2] st M x = Rs L xs (d) 49 15 [a0, some (.int z), a2] (.int z :: st) M x := Rs_next c49_14 rfl
theorem c49_15 : qx_code 49 15 = some (15, .invokestatic 47, 18, 174, 3, 666) := by decide +kernel
theorem s49_15 {L : Nat} {xs : Nat → Int32} {d x : Nat} {M : qxM} {st : List Value} {ls : qxL} {z0 : Nat} {z1 : Int32} {z2 : Int32} (hs : st.length ≤ 4) : Rs L xs (d + 1) 49 15 ls (.int z2 :: .int z1 :: .ref z0 :: st) M x = (Rs L xs d 174 0 [some (.ref z0), some (.int z1), some (.int z2)] [] M 0).bind (qx_kn L xs (d + 1) 49 15 18 174 ls st x) := by
  have h1 : qx_act L xs (qx_rt 49) (15, .invokestatic 47, 18, 174, 3, 666) ls (.int z2 :: .int z1 :: .ref z0 :: st) M = if 3 ≤ (.int z2 :: .int z1 :: .ref z0 :: st).length ∧ st.length ≤ 4 then some (.inr (.inr (.inr (174, [.ref z0, .int z1, .int z2], st)))) else none := rfl
  rw [if_pos ⟨by simp [List.length_cons]; try omega, hs⟩] at h1
  exact Rs_call c49_15 h1 rfl
theorem c49_18 : qx_code 49 18 = some (18, .return_, 19, 0, 0, 0) := by decide +kernel
theorem s49_18 {L : Nat} {xs : Nat → Int32} {d x : Nat} {M : qxM} {ls : qxL} : Rs L xs (d) 49 18 ls [] M x = some (.inl none, M, x) := Rs_ret c49_18 rfl
theorem c50_0 : qx_code 50 0 = some (0, .aload_n 0, 1, 0, 0, 0) := by decide +kernel
theorem s50_0 {L : Nat} {xs : Nat → Int32} {d x : Nat} {M : qxM} {st : List Value} {a1 : Option Value} {z : Nat} : Rs L xs (d) 50 0 [some (.ref z), a1] st M x = Rs L xs (d) 50 1 [some (.ref z), a1] (.ref z :: st) M x := Rs_next c50_0 rfl
theorem c50_1 : qx_code 50 1 = some (1, .getfield 15, 4, 2, 4, 174) := by decide +kernel
theorem s50_1 {L : Nat} {xs : Nat → Int32} {d x : Nat} {M : qxM} {st : List Value} {ls : qxL} {t : Nat} (hk : qx_kd t = 12) : Rs L xs (d) 50 1 ls (.ref t :: st) M x = Rs L xs (d) 50 4 ls (.ref (t + 2) :: st) M x := Rs_when (qx_kd_obj (k := 2) (by decide) hk) c50_1 rfl
theorem c50_4 : qx_code 50 4 = some (4, .aload_n 0, 5, 0, 0, 0) := by decide +kernel
theorem s50_4 {L : Nat} {xs : Nat → Int32} {d x : Nat} {M : qxM} {st : List Value} {a1 : Option Value} {z : Nat} : Rs L xs (d) 50 4 [some (.ref z), a1] st M x = Rs L xs (d) 50 5 [some (.ref z), a1] (.ref z :: st) M x := Rs_next c50_4 rfl
theorem c50_5 : qx_code 50 5 = some (5, .iload_n 1, 6, 0, 0, 0) := by decide +kernel
theorem s50_5 {L : Nat} {xs : Nat → Int32} {d x : Nat} {M : qxM} {st : List Value} {a0 : Option Value} {z : Int32} : Rs L xs (d) 50 5 [a0, some (.int z)] st M x = Rs L xs (d) 50 6 [a0, some (.int z)] (.int z :: st) M x := Rs_next c50_5 rfl
theorem c50_6 : qx_code 50 6 = some (6, .invokevirtual 66, 9, 46, 2, 634) := by decide +kernel
theorem s50_6 {L : Nat} {xs : Nat → Int32} {d x : Nat} {M : qxM} {st : List Value} {ls : qxL} {t : Nat} {z0 : Int32} (hk : qx_kd t = 12) (hs : st.length ≤ 4) : Rs L xs (d + 1) 50 6 ls (.int z0 :: .ref t :: st) M x = (Rs L xs d 46 0 [some (.ref t), some (.int z0)] [] M 0).bind (qx_kn L xs (d + 1) 50 6 9 46 ls st x) := by
  have h1 : qx_act L xs (qx_rt 50) (6, .invokevirtual 66, 9, 46, 2, 634) ls (.int z0 :: .ref t :: st) M = if 2 ≤ (.int z0 :: .ref t :: st).length ∧ st.length ≤ 4 then some (.inr (.inr (.inr (46, [.ref t, .int z0], st)))) else none := rfl
  rw [if_pos ⟨by simp [List.length_cons]; try omega, hs⟩] at h1
  have h2 := qx_kd_obj (k := 2) (by decide) hk
  exact Rs_call c50_6 h1 (by rw [show qx_args 46 [.ref t, .int z0] = decide (qx_sh t = some (.inl 2)) from rfl]; exact decide_eq_true h2)
theorem c50_9 : qx_code 50 9 = some (9, .iconst (-1), 10, 0, 0, 0) := by decide +kernel
theorem s50_9 {L : Nat} {xs : Nat → Int32} {d x : Nat} {M : qxM} {st : List Value} {ls : qxL} : Rs L xs (d) 50 9 ls st M x = Rs L xs (d) 50 10 ls (.int (-1) :: st) M x := Rs_next c50_9 rfl
theorem c50_10 : qx_code 50 10 = some (10, .invokestatic 47, 13, 174, 3, 666) := by decide +kernel
theorem s50_10 {L : Nat} {xs : Nat → Int32} {d x : Nat} {M : qxM} {st : List Value} {ls : qxL} {z0 : Nat} {z1 : Int32} {z2 : Int32} (hs : st.length ≤ 4) : Rs L xs (d + 1) 50 10 ls (.int z2 :: .int z1 :: .ref z0 :: st) M x = (Rs L xs d 174 0 [some (.ref z0), some (.int z1), some (.int z2)] [] M 0).bind (qx_kn L xs (d + 1) 50 10 13 174 ls st x) := by
  have h1 : qx_act L xs (qx_rt 50) (10, .invokestatic 47, 13, 174, 3, 666) ls (.int z2 :: .int z1 :: .ref z0 :: st) M = if 3 ≤ (.int z2 :: .int z1 :: .ref z0 :: st).length ∧ st.length ≤ 4 then some (.inr (.inr (.inr (174, [.ref z0, .int z1, .int z2], st)))) else none := rfl
  rw [if_pos ⟨by simp [List.length_cons]; try omega, hs⟩] at h1
  exact Rs_call c50_10 h1 rfl
theorem c50_13 : qx_code 50 13 = some (13, .aload_n 0, 14, 0, 0, 0) := by decide +kernel
theorem s50_13 {L : Nat} {xs : Nat → Int32} {d x : Nat} {M : qxM} {st : List Value} {a1 : Option Value} {z : Nat} : Rs L xs (d) 50 13 [some (.ref z), a1] st M x = Rs L xs (d) 50 14 [some (.ref z), a1] (.ref z :: st) M x := Rs_next c50_13 rfl
theorem c50_14 : qx_code 50 14 = some (14, .getfield 15, 17, 2, 4, 174) := by decide +kernel
theorem s50_14 {L : Nat} {xs : Nat → Int32} {d x : Nat} {M : qxM} {st : List Value} {ls : qxL} {t : Nat} (hk : qx_kd t = 12) : Rs L xs (d) 50 14 ls (.ref t :: st) M x = Rs L xs (d) 50 17 ls (.ref (t + 2) :: st) M x := Rs_when (qx_kd_obj (k := 2) (by decide) hk) c50_14 rfl
theorem c50_17 : qx_code 50 17 = some (17, .iload_n 1, 18, 0, 0, 0) := by decide +kernel
theorem s50_17 {L : Nat} {xs : Nat → Int32} {d x : Nat} {M : qxM} {st : List Value} {a0 : Option Value} {z : Int32} : Rs L xs (d) 50 17 [a0, some (.int z)] st M x = Rs L xs (d) 50 18 [a0, some (.int z)] (.int z :: st) M x := Rs_next c50_17 rfl
theorem c50_18 : qx_code 50 18 = some (18, .iconst (-1), 19, 0, 0, 0) := by decide +kernel
theorem s50_18 {L : Nat} {xs : Nat → Int32} {d x : Nat} {M : qxM} {st : List Value} {ls : qxL} : Rs L xs (d) 50 18 ls st M x = Rs L xs (d) 50 19 ls (.int (-1) :: st) M x := Rs_next c50_18 rfl
theorem c50_19 : qx_code 50 19 = some (19, .invokestatic 47, 22, 174, 3, 666) := by decide +kernel
theorem s50_19 {L : Nat} {xs : Nat → Int32} {d x : Nat} {M : qxM} {st : List Value} {ls : qxL} {z0 : Nat} {z1 : Int32} {z2 : Int32} (hs : st.length ≤ 4) : Rs L xs (d + 1) 50 19 ls (.int z2 :: .int z1 :: .ref z0 :: st) M x = (Rs L xs d 174 0 [some (.ref z0), some (.int z1), some (.int z2)] [] M 0).bind (qx_kn L xs (d + 1) 50 19 22 174 ls st x) := by
  have h1 : qx_act L xs (qx_rt 50) (19, .invokestatic 47, 22, 174, 3, 666) ls (.int z2 :: .int z1 :: .ref z0 :: st) M = if 3 ≤ (.int z2 :: .int z1 :: .ref z0 :: st).length ∧ st.length ≤ 4 then some (.inr (.inr (.inr (174, [.ref z0, .int z1, .int z2], st)))) else none := rfl
  rw [if_pos ⟨by simp [List.length_cons]; try omega, hs⟩] at h1
  exact Rs_call c50_19 h1 rfl
theorem c50_22 : qx_code 50 22 = some (22, .return_, 23, 0, 0, 0) := by decide +kernel
theorem s50_22 {L : Nat} {xs : Nat → Int32} {d x : Nat} {M : qxM} {ls : qxL} : Rs L xs (d) 50 22 ls [] M x = some (.inl none, M, x) := Rs_ret c50_22 rfl
theorem c51_0 : qx_code 51 0 = some (0, .iconst 0, 1, 0, 0, 0) := by decide +kernel
theorem s51_0 {L : Nat} {xs : Nat → Int32} {d x : Nat} {M : qxM} {st : List Value} {ls : qxL} : Rs L xs (d) 51 0 ls st M x = Rs L xs (d) 51 1 ls (.int (nI 0) :: st) M x := Rs_next c51_0 rfl
theorem c51_1 : qx_code 51 1 = some (1, .istore_n 1, 2, 0, 0, 0) := by decide +kernel
theorem s51_1i {L : Nat} {xs : Nat → Int32} {d x : Nat} {M : qxM} {st : List Value} {a1 a2 a3 : Option Value} {z : Int32} {y : Int32} : Rs L xs (d) 51 1 [some (.int y), a1, a2, a3] (.int z :: st) M x = Rs L xs (d) 51 2 [some (.int y), some (.int z), a2, a3] st M x := Rs_next c51_1 rfl
theorem s51_1r {L : Nat} {xs : Nat → Int32} {d x : Nat} {M : qxM} {st : List Value} {a1 a2 a3 : Option Value} {z : Int32} {y : Nat} : Rs L xs (d) 51 1 [some (.ref y), a1, a2, a3] (.int z :: st) M x = Rs L xs (d) 51 2 [some (.ref y), some (.int z), a2, a3] st M x := Rs_next c51_1 rfl
theorem s51_1n {L : Nat} {xs : Nat → Int32} {d x : Nat} {M : qxM} {st : List Value} {a1 a2 a3 : Option Value} {z : Int32} : Rs L xs (d) 51 1 [none, a1, a2, a3] (.int z :: st) M x = Rs L xs (d) 51 2 [none, some (.int z), a2, a3] st M x := Rs_next c51_1 rfl
theorem c51_2 : qx_code 51 2 = some (2, .iconst 0, 3, 0, 0, 0) := by decide +kernel
theorem s51_2 {L : Nat} {xs : Nat → Int32} {d x : Nat} {M : qxM} {st : List Value} {ls : qxL} : Rs L xs (d) 51 2 ls st M x = Rs L xs (d) 51 3 ls (.int (nI 0) :: st) M x := Rs_next c51_2 rfl
theorem c51_3 : qx_code 51 3 = some (3, .istore_n 2, 4, 0, 0, 0) := by decide +kernel
theorem s51_3i {L : Nat} {xs : Nat → Int32} {d x : Nat} {M : qxM} {st : List Value} {a0 a2 a3 : Option Value} {z : Int32} {y : Int32} : Rs L xs (d) 51 3 [a0, some (.int y), a2, a3] (.int z :: st) M x = Rs L xs (d) 51 4 [a0, some (.int y), some (.int z), a3] st M x := Rs_next c51_3 rfl
theorem s51_3r {L : Nat} {xs : Nat → Int32} {d x : Nat} {M : qxM} {st : List Value} {a0 a2 a3 : Option Value} {z : Int32} {y : Nat} : Rs L xs (d) 51 3 [a0, some (.ref y), a2, a3] (.int z :: st) M x = Rs L xs (d) 51 4 [a0, some (.ref y), some (.int z), a3] st M x := Rs_next c51_3 rfl
theorem s51_3n {L : Nat} {xs : Nat → Int32} {d x : Nat} {M : qxM} {st : List Value} {a0 a2 a3 : Option Value} {z : Int32} : Rs L xs (d) 51 3 [a0, none, a2, a3] (.int z :: st) M x = Rs L xs (d) 51 4 [a0, none, some (.int z), a3] st M x := Rs_next c51_3 rfl
theorem c51_4 : qx_code 51 4 = some (4, .iload_n 2, 5, 0, 0, 0) := by decide +kernel
theorem s51_4 {L : Nat} {xs : Nat → Int32} {d x : Nat} {M : qxM} {st : List Value} {a0 a1 a3 : Option Value} {z : Int32} : Rs L xs (d) 51 4 [a0, a1, some (.int z), a3] st M x = Rs L xs (d) 51 5 [a0, a1, some (.int z), a3] (.int z :: st) M x := Rs_next c51_4 rfl
theorem c51_5 : qx_code 51 5 = some (5, .aload_n 0, 6, 0, 0, 0) := by decide +kernel
theorem s51_5 {L : Nat} {xs : Nat → Int32} {d x : Nat} {M : qxM} {st : List Value} {a1 a2 a3 : Option Value} {z : Nat} : Rs L xs (d) 51 5 [some (.ref z), a1, a2, a3] st M x = Rs L xs (d) 51 6 [some (.ref z), a1, a2, a3] (.ref z :: st) M x := Rs_next c51_5 rfl
theorem c51_6 : qx_code 51 6 = some (6, .getfield 18, 9, 2, 0, 165) := by decide +kernel
theorem s51_6 {L : Nat} {xs : Nat → Int32} {d x : Nat} {M : qxM} {st : List Value} {ls : qxL} {t : Nat} (hk : qx_kd t = 12) : Rs L xs (d) 51 6 ls (.ref t :: st) M x = Rs L xs (d) 51 9 ls (.int (M.1 t 0) :: st) M x := Rs_when (qx_kd_obj (k := 2) (by decide) hk) c51_6 rfl
theorem c51_9 : qx_code 51 9 = some (9, .if_icmp .ge 40, 12, 49, 0, 0) := by decide +kernel
theorem s51_9 {L : Nat} {xs : Nat → Int32} {d x : Nat} {M : qxM} {st : List Value} {ls : qxL} {z y : Int32} : Rs L xs (d) 51 9 ls (.int y :: .int z :: st) M x = if y ≤ z then Rs L xs (d) 51 49 ls st M x else Rs L xs (d) 51 12 ls st M x := Rs_ite c51_9 rfl
theorem c51_12 : qx_code 51 12 = some (12, .aload_n 0, 13, 0, 0, 0) := by decide +kernel
theorem s51_12 {L : Nat} {xs : Nat → Int32} {d x : Nat} {M : qxM} {st : List Value} {a1 a2 a3 : Option Value} {z : Nat} : Rs L xs (d) 51 12 [some (.ref z), a1, a2, a3] st M x = Rs L xs (d) 51 13 [some (.ref z), a1, a2, a3] (.ref z :: st) M x := Rs_next c51_12 rfl
theorem c51_13 : qx_code 51 13 = some (13, .iload_n 2, 14, 0, 0, 0) := by decide +kernel
theorem s51_13 {L : Nat} {xs : Nat → Int32} {d x : Nat} {M : qxM} {st : List Value} {a0 a1 a3 : Option Value} {z : Int32} : Rs L xs (d) 51 13 [a0, a1, some (.int z), a3] st M x = Rs L xs (d) 51 14 [a0, a1, some (.int z), a3] (.int z :: st) M x := Rs_next c51_13 rfl
theorem c51_14 : qx_code 51 14 = some (14, .invokevirtual 66, 17, 46, 2, 634) := by decide +kernel
theorem s51_14 {L : Nat} {xs : Nat → Int32} {d x : Nat} {M : qxM} {st : List Value} {ls : qxL} {t : Nat} {z0 : Int32} (hk : qx_kd t = 12) (hs : st.length ≤ 4) : Rs L xs (d + 1) 51 14 ls (.int z0 :: .ref t :: st) M x = (Rs L xs d 46 0 [some (.ref t), some (.int z0)] [] M 0).bind (qx_kn L xs (d + 1) 51 14 17 46 ls st x) := by
  have h1 : qx_act L xs (qx_rt 51) (14, .invokevirtual 66, 17, 46, 2, 634) ls (.int z0 :: .ref t :: st) M = if 2 ≤ (.int z0 :: .ref t :: st).length ∧ st.length ≤ 4 then some (.inr (.inr (.inr (46, [.ref t, .int z0], st)))) else none := rfl
  rw [if_pos ⟨by simp [List.length_cons]; try omega, hs⟩] at h1
  have h2 := qx_kd_obj (k := 2) (by decide) hk
  exact Rs_call c51_14 h1 (by rw [show qx_args 46 [.ref t, .int z0] = decide (qx_sh t = some (.inl 2)) from rfl]; exact decide_eq_true h2)
theorem c51_17 : qx_code 51 17 = some (17, .istore_n 3, 18, 0, 0, 0) := by decide +kernel
theorem s51_17i {L : Nat} {xs : Nat → Int32} {d x : Nat} {M : qxM} {st : List Value} {a0 a1 a3 : Option Value} {z : Int32} {y : Int32} : Rs L xs (d) 51 17 [a0, a1, some (.int y), a3] (.int z :: st) M x = Rs L xs (d) 51 18 [a0, a1, some (.int y), some (.int z)] st M x := Rs_next c51_17 rfl
theorem s51_17r {L : Nat} {xs : Nat → Int32} {d x : Nat} {M : qxM} {st : List Value} {a0 a1 a3 : Option Value} {z : Int32} {y : Nat} : Rs L xs (d) 51 17 [a0, a1, some (.ref y), a3] (.int z :: st) M x = Rs L xs (d) 51 18 [a0, a1, some (.ref y), some (.int z)] st M x := Rs_next c51_17 rfl
theorem s51_17n {L : Nat} {xs : Nat → Int32} {d x : Nat} {M : qxM} {st : List Value} {a0 a1 a3 : Option Value} {z : Int32} : Rs L xs (d) 51 17 [a0, a1, none, a3] (.int z :: st) M x = Rs L xs (d) 51 18 [a0, a1, none, some (.int z)] st M x := Rs_next c51_17 rfl
theorem c51_18 : qx_code 51 18 = some (18, .iload_n 3, 19, 0, 0, 0) := by decide +kernel
theorem s51_18 {L : Nat} {xs : Nat → Int32} {d x : Nat} {M : qxM} {st : List Value} {a0 a1 a2 : Option Value} {z : Int32} : Rs L xs (d) 51 18 [a0, a1, a2, some (.int z)] st M x = Rs L xs (d) 51 19 [a0, a1, a2, some (.int z)] (.int z :: st) M x := Rs_next c51_18 rfl
theorem c51_19 : qx_code 51 19 = some (19, .iconst (-1), 20, 0, 0, 0) := by decide +kernel
theorem s51_19 {L : Nat} {xs : Nat → Int32} {d x : Nat} {M : qxM} {st : List Value} {ls : qxL} : Rs L xs (d) 51 19 ls st M x = Rs L xs (d) 51 20 ls (.int (-1) :: st) M x := Rs_next c51_19 rfl
theorem c51_20 : qx_code 51 20 = some (20, .if_icmp .eq 23, 23, 43, 0, 0) := by decide +kernel
theorem s51_20 {L : Nat} {xs : Nat → Int32} {d x : Nat} {M : qxM} {st : List Value} {ls : qxL} {z y : Int32} : Rs L xs (d) 51 20 ls (.int y :: .int z :: st) M x = if z = y then Rs L xs (d) 51 43 ls st M x else Rs L xs (d) 51 23 ls st M x := Rs_ite c51_20 rfl
theorem c51_23 : qx_code 51 23 = some (23, .aload_n 0, 24, 0, 0, 0) := by decide +kernel
theorem s51_23 {L : Nat} {xs : Nat → Int32} {d x : Nat} {M : qxM} {st : List Value} {a1 a2 a3 : Option Value} {z : Nat} : Rs L xs (d) 51 23 [some (.ref z), a1, a2, a3] st M x = Rs L xs (d) 51 24 [some (.ref z), a1, a2, a3] (.ref z :: st) M x := Rs_next c51_23 rfl
theorem c51_24 : qx_code 51 24 = some (24, .iload_n 2, 25, 0, 0, 0) := by decide +kernel
theorem s51_24 {L : Nat} {xs : Nat → Int32} {d x : Nat} {M : qxM} {st : List Value} {a0 a1 a3 : Option Value} {z : Int32} : Rs L xs (d) 51 24 [a0, a1, some (.int z), a3] st M x = Rs L xs (d) 51 25 [a0, a1, some (.int z), a3] (.int z :: st) M x := Rs_next c51_24 rfl
theorem c51_25 : qx_code 51 25 = some (25, .invokevirtual 63, 28, 42, 2, 678) := by decide +kernel
theorem s51_25 {L : Nat} {xs : Nat → Int32} {d x : Nat} {M : qxM} {st : List Value} {ls : qxL} {t : Nat} {z0 : Int32} (hk : qx_kd t = 12) (hs : st.length ≤ 4) : Rs L xs (d + 1) 51 25 ls (.int z0 :: .ref t :: st) M x = (Rs L xs d 42 0 [some (.ref t), some (.int z0)] [] M 0).bind (qx_kn L xs (d + 1) 51 25 28 42 ls st x) := by
  have h1 : qx_act L xs (qx_rt 51) (25, .invokevirtual 63, 28, 42, 2, 678) ls (.int z0 :: .ref t :: st) M = if 2 ≤ (.int z0 :: .ref t :: st).length ∧ st.length ≤ 4 then some (.inr (.inr (.inr (42, [.ref t, .int z0], st)))) else none := rfl
  rw [if_pos ⟨by simp [List.length_cons]; try omega, hs⟩] at h1
  have h2 := qx_kd_obj (k := 2) (by decide) hk
  exact Rs_call c51_25 h1 (by rw [show qx_args 42 [.ref t, .int z0] = decide (qx_sh t = some (.inl 2)) from rfl]; exact decide_eq_true h2)
theorem c51_28 : qx_code 51 28 = some (28, .iload_n 3, 29, 0, 0, 0) := by decide +kernel
theorem s51_28 {L : Nat} {xs : Nat → Int32} {d x : Nat} {M : qxM} {st : List Value} {a0 a1 a2 : Option Value} {z : Int32} : Rs L xs (d) 51 28 [a0, a1, a2, some (.int z)] st M x = Rs L xs (d) 51 29 [a0, a1, a2, some (.int z)] (.int z :: st) M x := Rs_next c51_28 rfl
theorem c51_29 : qx_code 51 29 = some (29, .invokestatic 40, 32, 170, 2, 646) := by decide +kernel
theorem s51_29 {L : Nat} {xs : Nat → Int32} {d x : Nat} {M : qxM} {st : List Value} {ls : qxL} {z0 : Int32} {z1 : Int32} (hs : st.length ≤ 4) : Rs L xs (d + 1) 51 29 ls (.int z1 :: .int z0 :: st) M x = (Rs L xs d 170 0 [some (.int z0), some (.int z1)] [] M 0).bind (qx_kn L xs (d + 1) 51 29 32 170 ls st x) := by
  have h1 : qx_act L xs (qx_rt 51) (29, .invokestatic 40, 32, 170, 2, 646) ls (.int z1 :: .int z0 :: st) M = if 2 ≤ (.int z1 :: .int z0 :: st).length ∧ st.length ≤ 4 then some (.inr (.inr (.inr (170, [.int z0, .int z1], st)))) else none := rfl
  rw [if_pos ⟨by simp [List.length_cons]; try omega, hs⟩] at h1
  exact Rs_call c51_29 h1 rfl
theorem c51_32 : qx_code 51 32 = some (32, .ifCond .ne 11, 35, 43, 0, 0) := by decide +kernel
theorem s51_32 {L : Nat} {xs : Nat → Int32} {d x : Nat} {M : qxM} {st : List Value} {ls : qxL} {z : Int32} : Rs L xs (d) 51 32 ls (.int z :: st) M x = if z = 0 then Rs L xs (d) 51 35 ls st M x else Rs L xs (d) 51 43 ls st M x := Rs_ite c51_32 rfl
theorem c51_35 : qx_code 51 35 = some (35, .aload_n 0, 36, 0, 0, 0) := by decide +kernel
theorem s51_35 {L : Nat} {xs : Nat → Int32} {d x : Nat} {M : qxM} {st : List Value} {a1 a2 a3 : Option Value} {z : Nat} : Rs L xs (d) 51 35 [some (.ref z), a1, a2, a3] st M x = Rs L xs (d) 51 36 [some (.ref z), a1, a2, a3] (.ref z :: st) M x := Rs_next c51_35 rfl
theorem c51_36 : qx_code 51 36 = some (36, .iload_n 2, 37, 0, 0, 0) := by decide +kernel
theorem s51_36 {L : Nat} {xs : Nat → Int32} {d x : Nat} {M : qxM} {st : List Value} {a0 a1 a3 : Option Value} {z : Int32} : Rs L xs (d) 51 36 [a0, a1, some (.int z), a3] st M x = Rs L xs (d) 51 37 [a0, a1, some (.int z), a3] (.int z :: st) M x := Rs_next c51_36 rfl
theorem c51_37 : qx_code 51 37 = some (37, .invokevirtual 73, 40, 50, 2, 679) := by decide +kernel
theorem s51_37 {L : Nat} {xs : Nat → Int32} {d x : Nat} {M : qxM} {st : List Value} {ls : qxL} {t : Nat} {z0 : Int32} (hk : qx_kd t = 12) (hs : st.length ≤ 4) : Rs L xs (d + 1) 51 37 ls (.int z0 :: .ref t :: st) M x = (Rs L xs d 50 0 [some (.ref t), some (.int z0)] [] M 0).bind (qx_kn L xs (d + 1) 51 37 40 50 ls st x) := by
  have h1 : qx_act L xs (qx_rt 51) (37, .invokevirtual 73, 40, 50, 2, 679) ls (.int z0 :: .ref t :: st) M = if 2 ≤ (.int z0 :: .ref t :: st).length ∧ st.length ≤ 4 then some (.inr (.inr (.inr (50, [.ref t, .int z0], st)))) else none := rfl
  rw [if_pos ⟨by simp [List.length_cons]; try omega, hs⟩] at h1
  have h2 := qx_kd_obj (k := 2) (by decide) hk
  exact Rs_call c51_37 h1 (by rw [show qx_args 50 [.ref t, .int z0] = decide (qx_sh t = some (.inl 2)) from rfl]; exact decide_eq_true h2)
theorem c51_40 : qx_code 51 40 = some (40, .iinc 1 1, 43, 0, 0, 0) := by decide +kernel
theorem s51_40i {L : Nat} {xs : Nat → Int32} {d x : Nat} {M : qxM} {st : List Value} {a2 a3 : Option Value} {z : Int32} {y : Int32} : Rs L xs (d) 51 40 [some (.int y), some (.int z), a2, a3] st M x = Rs L xs (d) 51 43 [some (.int y), some (.int (z + (nI 1))), a2, a3] st M x := Rs_next c51_40 rfl
theorem s51_40r {L : Nat} {xs : Nat → Int32} {d x : Nat} {M : qxM} {st : List Value} {a2 a3 : Option Value} {z : Int32} {y : Nat} : Rs L xs (d) 51 40 [some (.ref y), some (.int z), a2, a3] st M x = Rs L xs (d) 51 43 [some (.ref y), some (.int (z + (nI 1))), a2, a3] st M x := Rs_next c51_40 rfl
theorem s51_40n {L : Nat} {xs : Nat → Int32} {d x : Nat} {M : qxM} {st : List Value} {a2 a3 : Option Value} {z : Int32} : Rs L xs (d) 51 40 [none, some (.int z), a2, a3] st M x = Rs L xs (d) 51 43 [none, some (.int (z + (nI 1))), a2, a3] st M x := Rs_next c51_40 rfl
theorem c51_43 : qx_code 51 43 = some (43, .iinc 2 1, 46, 0, 0, 0) := by decide +kernel
theorem s51_43i {L : Nat} {xs : Nat → Int32} {d x : Nat} {M : qxM} {st : List Value} {a0 a3 : Option Value} {z : Int32} {y : Int32} : Rs L xs (d) 51 43 [a0, some (.int y), some (.int z), a3] st M x = Rs L xs (d) 51 46 [a0, some (.int y), some (.int (z + (nI 1))), a3] st M x := Rs_next c51_43 rfl
theorem s51_43r {L : Nat} {xs : Nat → Int32} {d x : Nat} {M : qxM} {st : List Value} {a0 a3 : Option Value} {z : Int32} {y : Nat} : Rs L xs (d) 51 43 [a0, some (.ref y), some (.int z), a3] st M x = Rs L xs (d) 51 46 [a0, some (.ref y), some (.int (z + (nI 1))), a3] st M x := Rs_next c51_43 rfl
theorem s51_43n {L : Nat} {xs : Nat → Int32} {d x : Nat} {M : qxM} {st : List Value} {a0 a3 : Option Value} {z : Int32} : Rs L xs (d) 51 43 [a0, none, some (.int z), a3] st M x = Rs L xs (d) 51 46 [a0, none, some (.int (z + (nI 1))), a3] st M x := Rs_next c51_43 rfl
theorem c51_46 : qx_code 51 46 = some (46, .goto (-42), 49, 4, 0, 0) := by decide +kernel
theorem s51_46 {L : Nat} {xs : Nat → Int32} {d x : Nat} {M : qxM} {st : List Value} {ls : qxL} : Rs L xs (d) 51 46 ls st M x = Rs L xs (d) 51 4 ls st M x := Rs_next c51_46 rfl
theorem c51_49 : qx_code 51 49 = some (49, .iload_n 1, 50, 0, 0, 0) := by decide +kernel
theorem s51_49 {L : Nat} {xs : Nat → Int32} {d x : Nat} {M : qxM} {st : List Value} {a0 a2 a3 : Option Value} {z : Int32} : Rs L xs (d) 51 49 [a0, some (.int z), a2, a3] st M x = Rs L xs (d) 51 50 [a0, some (.int z), a2, a3] (.int z :: st) M x := Rs_next c51_49 rfl
theorem c51_50 : qx_code 51 50 = some (50, .ireturn, 51, 0, 0, 0) := by decide +kernel
theorem s51_50 {L : Nat} {xs : Nat → Int32} {d x : Nat} {M : qxM} {ls : qxL} {z : Int32} : Rs L xs (d) 51 50 ls [.int z] M x = some (.inl (some (.int z)), M, x) := Rs_ret c51_50 rfl
theorem c52_0 : qx_code 52 0 = some (0, .aload_n 0, 1, 0, 0, 0) := by decide +kernel
theorem s52_0 {L : Nat} {xs : Nat → Int32} {d x : Nat} {M : qxM} {st : List Value} {a1 a2 a3 a4 : Option Value} {z : Nat} : Rs L xs (d) 52 0 [some (.ref z), a1, a2, a3, a4] st M x = Rs L xs (d) 52 1 [some (.ref z), a1, a2, a3, a4] (.ref z :: st) M x := Rs_next c52_0 rfl
theorem c52_1 : qx_code 52 1 = some (1, .getfield 15, 4, 2, 4, 174) := by decide +kernel
theorem s52_1 {L : Nat} {xs : Nat → Int32} {d x : Nat} {M : qxM} {st : List Value} {ls : qxL} {t : Nat} (hk : qx_kd t = 12) : Rs L xs (d) 52 1 ls (.ref t :: st) M x = Rs L xs (d) 52 4 ls (.ref (t + 2) :: st) M x := Rs_when (qx_kd_obj (k := 2) (by decide) hk) c52_1 rfl
theorem c52_4 : qx_code 52 4 = some (4, .iload_n 2, 5, 0, 0, 0) := by decide +kernel
theorem s52_4 {L : Nat} {xs : Nat → Int32} {d x : Nat} {M : qxM} {st : List Value} {a0 a1 a3 a4 : Option Value} {z : Int32} : Rs L xs (d) 52 4 [a0, a1, some (.int z), a3, a4] st M x = Rs L xs (d) 52 5 [a0, a1, some (.int z), a3, a4] (.int z :: st) M x := Rs_next c52_4 rfl
theorem c52_5 : qx_code 52 5 = some (5, .iconst (-1), 6, 0, 0, 0) := by decide +kernel
theorem s52_5 {L : Nat} {xs : Nat → Int32} {d x : Nat} {M : qxM} {st : List Value} {ls : qxL} : Rs L xs (d) 52 5 ls st M x = Rs L xs (d) 52 6 ls (.int (-1) :: st) M x := Rs_next c52_5 rfl
theorem c52_6 : qx_code 52 6 = some (6, .invokestatic 47, 9, 174, 3, 666) := by decide +kernel
theorem s52_6 {L : Nat} {xs : Nat → Int32} {d x : Nat} {M : qxM} {st : List Value} {ls : qxL} {z0 : Nat} {z1 : Int32} {z2 : Int32} (hs : st.length ≤ 4) : Rs L xs (d + 1) 52 6 ls (.int z2 :: .int z1 :: .ref z0 :: st) M x = (Rs L xs d 174 0 [some (.ref z0), some (.int z1), some (.int z2)] [] M 0).bind (qx_kn L xs (d + 1) 52 6 9 174 ls st x) := by
  have h1 : qx_act L xs (qx_rt 52) (6, .invokestatic 47, 9, 174, 3, 666) ls (.int z2 :: .int z1 :: .ref z0 :: st) M = if 3 ≤ (.int z2 :: .int z1 :: .ref z0 :: st).length ∧ st.length ≤ 4 then some (.inr (.inr (.inr (174, [.ref z0, .int z1, .int z2], st)))) else none := rfl
  rw [if_pos ⟨by simp [List.length_cons]; try omega, hs⟩] at h1
  exact Rs_call c52_6 h1 rfl
theorem c52_9 : qx_code 52 9 = some (9, .aload_n 1, 10, 0, 0, 0) := by decide +kernel
theorem s52_9 {L : Nat} {xs : Nat → Int32} {d x : Nat} {M : qxM} {st : List Value} {a0 a2 a3 a4 : Option Value} {z : Nat} : Rs L xs (d) 52 9 [a0, some (.ref z), a2, a3, a4] st M x = Rs L xs (d) 52 10 [a0, some (.ref z), a2, a3, a4] (.ref z :: st) M x := Rs_next c52_9 rfl
theorem c52_10 : qx_code 52 10 = some (10, .iload_n 2, 11, 0, 0, 0) := by decide +kernel
theorem s52_10 {L : Nat} {xs : Nat → Int32} {d x : Nat} {M : qxM} {st : List Value} {a0 a1 a3 a4 : Option Value} {z : Int32} : Rs L xs (d) 52 10 [a0, a1, some (.int z), a3, a4] st M x = Rs L xs (d) 52 11 [a0, a1, some (.int z), a3, a4] (.int z :: st) M x := Rs_next c52_10 rfl
theorem c52_11 : qx_code 52 11 = some (11, .invokevirtual 77, 14, 87, 2, 1307) := by decide +kernel
theorem s52_11 {L : Nat} {xs : Nat → Int32} {d x : Nat} {M : qxM} {st : List Value} {ls : qxL} {t : Nat} {z0 : Int32} (hk : qx_kd t = 16) (hs : st.length ≤ 4) : Rs L xs (d + 1) 52 11 ls (.int z0 :: .ref t :: st) M x = (Rs L xs d 87 0 [some (.ref t), some (.int z0)] [] M 0).bind (qx_kn L xs (d + 1) 52 11 14 87 ls st x) := by
  have h1 : qx_act L xs (qx_rt 52) (11, .invokevirtual 77, 14, 87, 2, 1307) ls (.int z0 :: .ref t :: st) M = if 2 ≤ (.int z0 :: .ref t :: st).length ∧ st.length ≤ 4 then some (.inr (.inr (.inr (87, [.ref t, .int z0], st)))) else none := rfl
  rw [if_pos ⟨by simp [List.length_cons]; try omega, hs⟩] at h1
  have h2 := qx_kd_obj (k := 6) (by decide) hk
  exact Rs_call c52_11 h1 (by rw [show qx_args 87 [.ref t, .int z0] = decide (qx_sh t = some (.inl 6)) from rfl]; exact decide_eq_true h2)
theorem c52_14 : qx_code 52 14 = some (14, .istore_n 3, 15, 0, 0, 0) := by decide +kernel
theorem s52_14i {L : Nat} {xs : Nat → Int32} {d x : Nat} {M : qxM} {st : List Value} {a0 a1 a3 a4 : Option Value} {z : Int32} {y : Int32} : Rs L xs (d) 52 14 [a0, a1, some (.int y), a3, a4] (.int z :: st) M x = Rs L xs (d) 52 15 [a0, a1, some (.int y), some (.int z), a4] st M x := Rs_next c52_14 rfl
theorem s52_14r {L : Nat} {xs : Nat → Int32} {d x : Nat} {M : qxM} {st : List Value} {a0 a1 a3 a4 : Option Value} {z : Int32} {y : Nat} : Rs L xs (d) 52 14 [a0, a1, some (.ref y), a3, a4] (.int z :: st) M x = Rs L xs (d) 52 15 [a0, a1, some (.ref y), some (.int z), a4] st M x := Rs_next c52_14 rfl
theorem s52_14n {L : Nat} {xs : Nat → Int32} {d x : Nat} {M : qxM} {st : List Value} {a0 a1 a3 a4 : Option Value} {z : Int32} : Rs L xs (d) 52 14 [a0, a1, none, a3, a4] (.int z :: st) M x = Rs L xs (d) 52 15 [a0, a1, none, some (.int z), a4] st M x := Rs_next c52_14 rfl
theorem c52_15 : qx_code 52 15 = some (15, .iconst 1, 16, 0, 0, 0) := by decide +kernel
theorem s52_15 {L : Nat} {xs : Nat → Int32} {d x : Nat} {M : qxM} {st : List Value} {ls : qxL} : Rs L xs (d) 52 15 ls st M x = Rs L xs (d) 52 16 ls (.int (nI 1) :: st) M x := Rs_next c52_15 rfl
theorem c52_16 : qx_code 52 16 = some (16, .istore 4, 18, 0, 0, 0) := by decide +kernel
theorem s52_16i {L : Nat} {xs : Nat → Int32} {d x : Nat} {M : qxM} {st : List Value} {a0 a1 a2 a4 : Option Value} {z : Int32} {y : Int32} : Rs L xs (d) 52 16 [a0, a1, a2, some (.int y), a4] (.int z :: st) M x = Rs L xs (d) 52 18 [a0, a1, a2, some (.int y), some (.int z)] st M x := Rs_next c52_16 rfl
theorem s52_16r {L : Nat} {xs : Nat → Int32} {d x : Nat} {M : qxM} {st : List Value} {a0 a1 a2 a4 : Option Value} {z : Int32} {y : Nat} : Rs L xs (d) 52 16 [a0, a1, a2, some (.ref y), a4] (.int z :: st) M x = Rs L xs (d) 52 18 [a0, a1, a2, some (.ref y), some (.int z)] st M x := Rs_next c52_16 rfl
theorem s52_16n {L : Nat} {xs : Nat → Int32} {d x : Nat} {M : qxM} {st : List Value} {a0 a1 a2 a4 : Option Value} {z : Int32} : Rs L xs (d) 52 16 [a0, a1, a2, none, a4] (.int z :: st) M x = Rs L xs (d) 52 18 [a0, a1, a2, none, some (.int z)] st M x := Rs_next c52_16 rfl
theorem c52_18 : qx_code 52 18 = some (18, .iload 4, 20, 0, 0, 0) := by decide +kernel
theorem s52_18 {L : Nat} {xs : Nat → Int32} {d x : Nat} {M : qxM} {st : List Value} {a0 a1 a2 a3 : Option Value} {z : Int32} : Rs L xs (d) 52 18 [a0, a1, a2, a3, some (.int z)] st M x = Rs L xs (d) 52 20 [a0, a1, a2, a3, some (.int z)] (.int z :: st) M x := Rs_next c52_18 rfl
theorem c52_20 : qx_code 52 20 = some (20, .iconst 1, 21, 0, 0, 0) := by decide +kernel
theorem s52_20 {L : Nat} {xs : Nat → Int32} {d x : Nat} {M : qxM} {st : List Value} {ls : qxL} : Rs L xs (d) 52 20 ls st M x = Rs L xs (d) 52 21 ls (.int (nI 1) :: st) M x := Rs_next c52_20 rfl
theorem c52_21 : qx_code 52 21 = some (21, .iadd, 22, 0, 0, 0) := by decide +kernel
theorem s52_21 {L : Nat} {xs : Nat → Int32} {d x : Nat} {M : qxM} {st : List Value} {ls : qxL} {z y : Int32} : Rs L xs (d) 52 21 ls (.int y :: .int z :: st) M x = Rs L xs (d) 52 22 ls (.int (z + y) :: st) M x := Rs_next c52_21 rfl
theorem c52_22 : qx_code 52 22 = some (22, .iload_n 3, 23, 0, 0, 0) := by decide +kernel
theorem s52_22 {L : Nat} {xs : Nat → Int32} {d x : Nat} {M : qxM} {st : List Value} {a0 a1 a2 a4 : Option Value} {z : Int32} : Rs L xs (d) 52 22 [a0, a1, a2, some (.int z), a4] st M x = Rs L xs (d) 52 23 [a0, a1, a2, some (.int z), a4] (.int z :: st) M x := Rs_next c52_22 rfl
theorem c52_23 : qx_code 52 23 = some (23, .if_icmp .ge 29, 26, 52, 0, 0) := by decide +kernel
theorem s52_23 {L : Nat} {xs : Nat → Int32} {d x : Nat} {M : qxM} {st : List Value} {ls : qxL} {z y : Int32} : Rs L xs (d) 52 23 ls (.int y :: .int z :: st) M x = if y ≤ z then Rs L xs (d) 52 52 ls st M x else Rs L xs (d) 52 26 ls st M x := Rs_ite c52_23 rfl
theorem c52_26 : qx_code 52 26 = some (26, .aload_n 0, 27, 0, 0, 0) := by decide +kernel
theorem s52_26 {L : Nat} {xs : Nat → Int32} {d x : Nat} {M : qxM} {st : List Value} {a1 a2 a3 a4 : Option Value} {z : Nat} : Rs L xs (d) 52 26 [some (.ref z), a1, a2, a3, a4] st M x = Rs L xs (d) 52 27 [some (.ref z), a1, a2, a3, a4] (.ref z :: st) M x := Rs_next c52_26 rfl
theorem c52_27 : qx_code 52 27 = some (27, .aload_n 1, 28, 0, 0, 0) := by decide +kernel
theorem s52_27 {L : Nat} {xs : Nat → Int32} {d x : Nat} {M : qxM} {st : List Value} {a0 a2 a3 a4 : Option Value} {z : Nat} : Rs L xs (d) 52 27 [a0, some (.ref z), a2, a3, a4] st M x = Rs L xs (d) 52 28 [a0, some (.ref z), a2, a3, a4] (.ref z :: st) M x := Rs_next c52_27 rfl
theorem c52_28 : qx_code 52 28 = some (28, .iload_n 2, 29, 0, 0, 0) := by decide +kernel
theorem s52_28 {L : Nat} {xs : Nat → Int32} {d x : Nat} {M : qxM} {st : List Value} {a0 a1 a3 a4 : Option Value} {z : Int32} : Rs L xs (d) 52 28 [a0, a1, some (.int z), a3, a4] st M x = Rs L xs (d) 52 29 [a0, a1, some (.int z), a3, a4] (.int z :: st) M x := Rs_next c52_28 rfl
theorem c52_29 : qx_code 52 29 = some (29, .iload 4, 31, 0, 0, 0) := by decide +kernel
theorem s52_29 {L : Nat} {xs : Nat → Int32} {d x : Nat} {M : qxM} {st : List Value} {a0 a1 a2 a3 : Option Value} {z : Int32} : Rs L xs (d) 52 29 [a0, a1, a2, a3, some (.int z)] st M x = Rs L xs (d) 52 31 [a0, a1, a2, a3, some (.int z)] (.int z :: st) M x := Rs_next c52_29 rfl
theorem c52_31 : qx_code 52 31 = some (31, .invokevirtual 82, 34, 88, 3, 1308) := by decide +kernel
theorem s52_31 {L : Nat} {xs : Nat → Int32} {d x : Nat} {M : qxM} {st : List Value} {ls : qxL} {t : Nat} {z0 : Int32} {z1 : Int32} (hk : qx_kd t = 16) (hs : st.length ≤ 4) : Rs L xs (d + 1) 52 31 ls (.int z1 :: .int z0 :: .ref t :: st) M x = (Rs L xs d 88 0 [some (.ref t), some (.int z0), some (.int z1)] [] M 0).bind (qx_kn L xs (d + 1) 52 31 34 88 ls st x) := by
  have h1 : qx_act L xs (qx_rt 52) (31, .invokevirtual 82, 34, 88, 3, 1308) ls (.int z1 :: .int z0 :: .ref t :: st) M = if 3 ≤ (.int z1 :: .int z0 :: .ref t :: st).length ∧ st.length ≤ 4 then some (.inr (.inr (.inr (88, [.ref t, .int z0, .int z1], st)))) else none := rfl
  rw [if_pos ⟨by simp [List.length_cons]; try omega, hs⟩] at h1
  have h2 := qx_kd_obj (k := 6) (by decide) hk
  exact Rs_call c52_31 h1 (by rw [show qx_args 88 [.ref t, .int z0, .int z1] = decide (qx_sh t = some (.inl 6)) from rfl]; exact decide_eq_true h2)
theorem c52_34 : qx_code 52 34 = some (34, .aload_n 1, 35, 0, 0, 0) := by decide +kernel
theorem s52_34 {L : Nat} {xs : Nat → Int32} {d x : Nat} {M : qxM} {st : List Value} {a0 a2 a3 a4 : Option Value} {z : Nat} : Rs L xs (d) 52 34 [a0, some (.ref z), a2, a3, a4] st M x = Rs L xs (d) 52 35 [a0, some (.ref z), a2, a3, a4] (.ref z :: st) M x := Rs_next c52_34 rfl
theorem c52_35 : qx_code 52 35 = some (35, .iload_n 2, 36, 0, 0, 0) := by decide +kernel
theorem s52_35 {L : Nat} {xs : Nat → Int32} {d x : Nat} {M : qxM} {st : List Value} {a0 a1 a3 a4 : Option Value} {z : Int32} : Rs L xs (d) 52 35 [a0, a1, some (.int z), a3, a4] st M x = Rs L xs (d) 52 36 [a0, a1, some (.int z), a3, a4] (.int z :: st) M x := Rs_next c52_35 rfl
theorem c52_36 : qx_code 52 36 = some (36, .iload 4, 38, 0, 0, 0) := by decide +kernel
theorem s52_36 {L : Nat} {xs : Nat → Int32} {d x : Nat} {M : qxM} {st : List Value} {a0 a1 a2 a3 : Option Value} {z : Int32} : Rs L xs (d) 52 36 [a0, a1, a2, a3, some (.int z)] st M x = Rs L xs (d) 52 38 [a0, a1, a2, a3, some (.int z)] (.int z :: st) M x := Rs_next c52_36 rfl
theorem c52_38 : qx_code 52 38 = some (38, .iconst 1, 39, 0, 0, 0) := by decide +kernel
theorem s52_38 {L : Nat} {xs : Nat → Int32} {d x : Nat} {M : qxM} {st : List Value} {ls : qxL} : Rs L xs (d) 52 38 ls st M x = Rs L xs (d) 52 39 ls (.int (nI 1) :: st) M x := Rs_next c52_38 rfl
theorem c52_39 : qx_code 52 39 = some (39, .iadd, 40, 0, 0, 0) := by decide +kernel
theorem s52_39 {L : Nat} {xs : Nat → Int32} {d x : Nat} {M : qxM} {st : List Value} {ls : qxL} {z y : Int32} : Rs L xs (d) 52 39 ls (.int y :: .int z :: st) M x = Rs L xs (d) 52 40 ls (.int (z + y) :: st) M x := Rs_next c52_39 rfl
theorem c52_40 : qx_code 52 40 = some (40, .invokevirtual 82, 43, 88, 3, 1308) := by decide +kernel
theorem s52_40 {L : Nat} {xs : Nat → Int32} {d x : Nat} {M : qxM} {st : List Value} {ls : qxL} {t : Nat} {z0 : Int32} {z1 : Int32} (hk : qx_kd t = 16) (hs : st.length ≤ 4) : Rs L xs (d + 1) 52 40 ls (.int z1 :: .int z0 :: .ref t :: st) M x = (Rs L xs d 88 0 [some (.ref t), some (.int z0), some (.int z1)] [] M 0).bind (qx_kn L xs (d + 1) 52 40 43 88 ls st x) := by
  have h1 : qx_act L xs (qx_rt 52) (40, .invokevirtual 82, 43, 88, 3, 1308) ls (.int z1 :: .int z0 :: .ref t :: st) M = if 3 ≤ (.int z1 :: .int z0 :: .ref t :: st).length ∧ st.length ≤ 4 then some (.inr (.inr (.inr (88, [.ref t, .int z0, .int z1], st)))) else none := rfl
  rw [if_pos ⟨by simp [List.length_cons]; try omega, hs⟩] at h1
  have h2 := qx_kd_obj (k := 6) (by decide) hk
  exact Rs_call c52_40 h1 (by rw [show qx_args 88 [.ref t, .int z0, .int z1] = decide (qx_sh t = some (.inl 6)) from rfl]; exact decide_eq_true h2)
theorem c52_43 : qx_code 52 43 = some (43, .invokevirtual 85, 46, 49, 3, 1309) := by decide +kernel
theorem s52_43 {L : Nat} {xs : Nat → Int32} {d x : Nat} {M : qxM} {st : List Value} {ls : qxL} {t : Nat} {z0 : Int32} {z1 : Int32} (hk : qx_kd t = 12) (hs : st.length ≤ 4) : Rs L xs (d + 1) 52 43 ls (.int z1 :: .int z0 :: .ref t :: st) M x = (Rs L xs d 49 0 [some (.ref t), some (.int z0), some (.int z1)] [] M 0).bind (qx_kn L xs (d + 1) 52 43 46 49 ls st x) := by
  have h1 : qx_act L xs (qx_rt 52) (43, .invokevirtual 85, 46, 49, 3, 1309) ls (.int z1 :: .int z0 :: .ref t :: st) M = if 3 ≤ (.int z1 :: .int z0 :: .ref t :: st).length ∧ st.length ≤ 4 then some (.inr (.inr (.inr (49, [.ref t, .int z0, .int z1], st)))) else none := rfl
  rw [if_pos ⟨by simp [List.length_cons]; try omega, hs⟩] at h1
  have h2 := qx_kd_obj (k := 2) (by decide) hk
  exact Rs_call c52_43 h1 (by rw [show qx_args 49 [.ref t, .int z0, .int z1] = decide (qx_sh t = some (.inl 2)) from rfl]; exact decide_eq_true h2)
theorem c52_46 : qx_code 52 46 = some (46, .iinc 4 2, 49, 0, 0, 0) := by decide +kernel
theorem s52_46i {L : Nat} {xs : Nat → Int32} {d x : Nat} {M : qxM} {st : List Value} {a0 a1 a2 : Option Value} {z : Int32} {y : Int32} : Rs L xs (d) 52 46 [a0, a1, a2, some (.int y), some (.int z)] st M x = Rs L xs (d) 52 49 [a0, a1, a2, some (.int y), some (.int (z + (nI 2)))] st M x := Rs_next c52_46 rfl
theorem s52_46r {L : Nat} {xs : Nat → Int32} {d x : Nat} {M : qxM} {st : List Value} {a0 a1 a2 : Option Value} {z : Int32} {y : Nat} : Rs L xs (d) 52 46 [a0, a1, a2, some (.ref y), some (.int z)] st M x = Rs L xs (d) 52 49 [a0, a1, a2, some (.ref y), some (.int (z + (nI 2)))] st M x := Rs_next c52_46 rfl
theorem s52_46n {L : Nat} {xs : Nat → Int32} {d x : Nat} {M : qxM} {st : List Value} {a0 a1 a2 : Option Value} {z : Int32} : Rs L xs (d) 52 46 [a0, a1, a2, none, some (.int z)] st M x = Rs L xs (d) 52 49 [a0, a1, a2, none, some (.int (z + (nI 2)))] st M x := Rs_next c52_46 rfl
theorem c52_49 : qx_code 52 49 = some (49, .goto (-31), 52, 18, 0, 0) := by decide +kernel
theorem s52_49 {L : Nat} {xs : Nat → Int32} {d x : Nat} {M : qxM} {st : List Value} {ls : qxL} : Rs L xs (d) 52 49 ls st M x = Rs L xs (d) 52 18 ls st M x := Rs_next c52_49 rfl
theorem c52_52 : qx_code 52 52 = some (52, .return_, 53, 0, 0, 0) := by decide +kernel
theorem s52_52 {L : Nat} {xs : Nat → Int32} {d x : Nat} {M : qxM} {ls : qxL} : Rs L xs (d) 52 52 ls [] M x = some (.inl none, M, x) := Rs_ret c52_52 rfl
