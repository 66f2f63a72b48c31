/-! Steps of the law. -/
theorem c394_28 : qx_code 394 28 = some (28, .iload 5, 30, 0, 0, 0) := by decide +kernel
theorem s394_28 {L : Nat} {xs : Nat → Int32} {d x : Nat} {M : qxM} {st : List Value} {a0 a1 a2 a3 a4 a6 a7 a8 : Option Value} {z : Int32} : Rs L xs (d) 394 28 [a0, a1, a2, a3, a4, some (.int z), a6, a7, a8] st M x = Rs L xs (d) 394 30 [a0, a1, a2, a3, a4, some (.int z), a6, a7, a8] (.int z :: st) M x := Rs_next c394_28 rfl
theorem c394_30 : qx_code 394 30 = some (30, .aload_n 0, 31, 0, 0, 0) := by decide +kernel
theorem s394_30 {L : Nat} {xs : Nat → Int32} {d x : Nat} {M : qxM} {st : List Value} {a1 a2 a3 a4 a5 a6 a7 a8 : Option Value} {z : Nat} : Rs L xs (d) 394 30 [some (.ref z), a1, a2, a3, a4, a5, a6, a7, a8] st M x = Rs L xs (d) 394 31 [some (.ref z), a1, a2, a3, a4, a5, a6, a7, a8] (.ref z :: st) M x := Rs_next c394_30 rfl
theorem c394_31 : qx_code 394 31 = some (31, .arraylength, 32, 0, 0, 0) := by decide +kernel
theorem s394_31s {L : Nat} {xs : Nat → Int32} {d x : Nat} {M : qxM} {st : List Value} {ls : qxL} : Rs L xs (d) 394 31 ls (.ref 1 :: st) M x = Rs L xs (d) 394 32 ls (.int (nI L) :: st) M x := Rs_next c394_31 rfl
theorem c394_32 : qx_code 394 32 = some (32, .bipush 6, 34, 0, 0, 0) := by decide +kernel
theorem s394_32 {L : Nat} {xs : Nat → Int32} {d x : Nat} {M : qxM} {st : List Value} {ls : qxL} : Rs L xs (d) 394 32 ls st M x = Rs L xs (d) 394 34 ls (.int (nI 6) :: st) M x := Rs_next c394_32 rfl
theorem c394_34 : qx_code 394 34 = some (34, .isub, 35, 0, 0, 0) := by decide +kernel
theorem s394_34 {L : Nat} {xs : Nat → Int32} {d x : Nat} {M : qxM} {st : List Value} {ls : qxL} {z y : Int32} : Rs L xs (d) 394 34 ls (.int y :: .int z :: st) M x = Rs L xs (d) 394 35 ls (.int (z - y) :: st) M x := Rs_next c394_34 rfl
theorem c394_35 : qx_code 394 35 = some (35, .if_icmp .gt 3717, 38, 3752, 0, 0) := by decide +kernel
theorem s394_35 {L : Nat} {xs : Nat → Int32} {d x : Nat} {M : qxM} {st : List Value} {ls : qxL} {z y : Int32} : Rs L xs (d) 394 35 ls (.int y :: .int z :: st) M x = if y < z then Rs L xs (d) 394 3752 ls st M x else Rs L xs (d) 394 38 ls st M x := Rs_ite c394_35 rfl
theorem c394_38 : qx_code 394 38 = some (38, .aload_n 0, 39, 0, 0, 0) := by decide +kernel
theorem s394_38 {L : Nat} {xs : Nat → Int32} {d x : Nat} {M : qxM} {st : List Value} {a1 a2 a3 a4 a5 a6 a7 a8 : Option Value} {z : Nat} : Rs L xs (d) 394 38 [some (.ref z), a1, a2, a3, a4, a5, a6, a7, a8] st M x = Rs L xs (d) 394 39 [some (.ref z), a1, a2, a3, a4, a5, a6, a7, a8] (.ref z :: st) M x := Rs_next c394_38 rfl
theorem c394_39 : qx_code 394 39 = some (39, .iload 5, 41, 0, 0, 0) := by decide +kernel
theorem s394_39 {L : Nat} {xs : Nat → Int32} {d x : Nat} {M : qxM} {st : List Value} {a0 a1 a2 a3 a4 a6 a7 a8 : Option Value} {z : Int32} : Rs L xs (d) 394 39 [a0, a1, a2, a3, a4, some (.int z), a6, a7, a8] st M x = Rs L xs (d) 394 41 [a0, a1, a2, a3, a4, some (.int z), a6, a7, a8] (.int z :: st) M x := Rs_next c394_39 rfl
theorem c394_41 : qx_code 394 41 = some (41, .iaload, 42, 0, 0, 0) := by decide +kernel
theorem s394_41s {L : Nat} {xs : Nat → Int32} {d x : Nat} {M : qxM} {st : List Value} {ls : qxL} {j : Int32} (hj : qx_ib j L = true) : Rs L xs (d) 394 41 ls (.int j :: .ref 1 :: st) M x = Rs L xs (d) 394 42 ls (.int (xs j.toNatClampNeg) :: st) M x := Rs_unless (qx_ib_not hj) c394_41 rfl
theorem c394_42 : qx_code 394 42 = some (42, .bipush 63, 44, 0, 0, 0) := by decide +kernel
theorem s394_42 {L : Nat} {xs : Nat → Int32} {d x : Nat} {M : qxM} {st : List Value} {ls : qxL} : Rs L xs (d) 394 42 ls st M x = Rs L xs (d) 394 44 ls (.int (nI 63) :: st) M x := Rs_next c394_42 rfl
theorem c394_44 : qx_code 394 44 = some (44, .iand, 45, 0, 0, 0) := by decide +kernel
theorem s394_44 {L : Nat} {xs : Nat → Int32} {d x : Nat} {M : qxM} {st : List Value} {ls : qxL} {z y : Int32} : Rs L xs (d) 394 44 ls (.int y :: .int z :: st) M x = Rs L xs (d) 394 45 ls (.int (z &&& y) :: st) M x := Rs_next c394_44 rfl
theorem c394_45 : qx_code 394 45 = some (45, .tableswitch 3701 0 63 #[271, 344, 400, 413, 426, 439, 495, 563, 638, 706, 774, 830, 886, 942, 998, 1054, 1138, 1194, 1238, 1294, 1362, 1406, 1450, 1501, 1545, 1589, 1633, 1677, 1721, 1777, 1821, 1877, 1940, 1984, 2059, 2134, 2177, 2233, 2289, 2357, 2413, 2457, 2501, 2557, 2613, 2678, 2744, 2788, 2832, 2888, 2944, 3000, 3044, 3088, 3132, 3200, 3256, 3312, 3408, 3476, 3532, 3576, 3589, 3645], 316, 0, 0, 0) := by decide +kernel
theorem s394_45_0 {L : Nat} {xs : Nat → Int32} {d x : Nat} {M : qxM} {st : List Value} {ls : qxL} : Rs L xs (d) 394 45 ls (.int (nI 0) :: st) M x = Rs L xs (d) 394 316 ls st M x := Rs_next c394_45 rfl
theorem s394_45_1 {L : Nat} {xs : Nat → Int32} {d x : Nat} {M : qxM} {st : List Value} {ls : qxL} : Rs L xs (d) 394 45 ls (.int (nI 1) :: st) M x = Rs L xs (d) 394 389 ls st M x := Rs_next c394_45 rfl
theorem s394_45_2 {L : Nat} {xs : Nat → Int32} {d x : Nat} {M : qxM} {st : List Value} {ls : qxL} : Rs L xs (d) 394 45 ls (.int (nI 2) :: st) M x = Rs L xs (d) 394 445 ls st M x := Rs_next c394_45 rfl
theorem s394_45_3 {L : Nat} {xs : Nat → Int32} {d x : Nat} {M : qxM} {st : List Value} {ls : qxL} : Rs L xs (d) 394 45 ls (.int (nI 3) :: st) M x = Rs L xs (d) 394 458 ls st M x := Rs_next c394_45 rfl
theorem s394_45_4 {L : Nat} {xs : Nat → Int32} {d x : Nat} {M : qxM} {st : List Value} {ls : qxL} : Rs L xs (d) 394 45 ls (.int (nI 4) :: st) M x = Rs L xs (d) 394 471 ls st M x := Rs_next c394_45 rfl
theorem s394_45_5 {L : Nat} {xs : Nat → Int32} {d x : Nat} {M : qxM} {st : List Value} {ls : qxL} : Rs L xs (d) 394 45 ls (.int (nI 5) :: st) M x = Rs L xs (d) 394 484 ls st M x := Rs_next c394_45 rfl
theorem s394_45_6 {L : Nat} {xs : Nat → Int32} {d x : Nat} {M : qxM} {st : List Value} {ls : qxL} : Rs L xs (d) 394 45 ls (.int (nI 6) :: st) M x = Rs L xs (d) 394 540 ls st M x := Rs_next c394_45 rfl
theorem s394_45_7 {L : Nat} {xs : Nat → Int32} {d x : Nat} {M : qxM} {st : List Value} {ls : qxL} : Rs L xs (d) 394 45 ls (.int (nI 7) :: st) M x = Rs L xs (d) 394 608 ls st M x := Rs_next c394_45 rfl
theorem s394_45_8 {L : Nat} {xs : Nat → Int32} {d x : Nat} {M : qxM} {st : List Value} {ls : qxL} : Rs L xs (d) 394 45 ls (.int (nI 8) :: st) M x = Rs L xs (d) 394 683 ls st M x := Rs_next c394_45 rfl
theorem s394_45_9 {L : Nat} {xs : Nat → Int32} {d x : Nat} {M : qxM} {st : List Value} {ls : qxL} : Rs L xs (d) 394 45 ls (.int (nI 9) :: st) M x = Rs L xs (d) 394 751 ls st M x := Rs_next c394_45 rfl
theorem s394_45_10 {L : Nat} {xs : Nat → Int32} {d x : Nat} {M : qxM} {st : List Value} {ls : qxL} : Rs L xs (d) 394 45 ls (.int (nI 10) :: st) M x = Rs L xs (d) 394 819 ls st M x := Rs_next c394_45 rfl
theorem s394_45_11 {L : Nat} {xs : Nat → Int32} {d x : Nat} {M : qxM} {st : List Value} {ls : qxL} : Rs L xs (d) 394 45 ls (.int (nI 11) :: st) M x = Rs L xs (d) 394 875 ls st M x := Rs_next c394_45 rfl
theorem s394_45_12 {L : Nat} {xs : Nat → Int32} {d x : Nat} {M : qxM} {st : List Value} {ls : qxL} : Rs L xs (d) 394 45 ls (.int (nI 12) :: st) M x = Rs L xs (d) 394 931 ls st M x := Rs_next c394_45 rfl
theorem s394_45_13 {L : Nat} {xs : Nat → Int32} {d x : Nat} {M : qxM} {st : List Value} {ls : qxL} : Rs L xs (d) 394 45 ls (.int (nI 13) :: st) M x = Rs L xs (d) 394 987 ls st M x := Rs_next c394_45 rfl
theorem s394_45_14 {L : Nat} {xs : Nat → Int32} {d x : Nat} {M : qxM} {st : List Value} {ls : qxL} : Rs L xs (d) 394 45 ls (.int (nI 14) :: st) M x = Rs L xs (d) 394 1043 ls st M x := Rs_next c394_45 rfl
theorem s394_45_15 {L : Nat} {xs : Nat → Int32} {d x : Nat} {M : qxM} {st : List Value} {ls : qxL} : Rs L xs (d) 394 45 ls (.int (nI 15) :: st) M x = Rs L xs (d) 394 1099 ls st M x := Rs_next c394_45 rfl
theorem s394_45_16 {L : Nat} {xs : Nat → Int32} {d x : Nat} {M : qxM} {st : List Value} {ls : qxL} : Rs L xs (d) 394 45 ls (.int (nI 16) :: st) M x = Rs L xs (d) 394 1183 ls st M x := Rs_next c394_45 rfl
theorem s394_45_17 {L : Nat} {xs : Nat → Int32} {d x : Nat} {M : qxM} {st : List Value} {ls : qxL} : Rs L xs (d) 394 45 ls (.int (nI 17) :: st) M x = Rs L xs (d) 394 1239 ls st M x := Rs_next c394_45 rfl
theorem s394_45_18 {L : Nat} {xs : Nat → Int32} {d x : Nat} {M : qxM} {st : List Value} {ls : qxL} : Rs L xs (d) 394 45 ls (.int (nI 18) :: st) M x = Rs L xs (d) 394 1283 ls st M x := Rs_next c394_45 rfl
theorem s394_45_19 {L : Nat} {xs : Nat → Int32} {d x : Nat} {M : qxM} {st : List Value} {ls : qxL} : Rs L xs (d) 394 45 ls (.int (nI 19) :: st) M x = Rs L xs (d) 394 1339 ls st M x := Rs_next c394_45 rfl
theorem s394_45_20 {L : Nat} {xs : Nat → Int32} {d x : Nat} {M : qxM} {st : List Value} {ls : qxL} : Rs L xs (d) 394 45 ls (.int (nI 20) :: st) M x = Rs L xs (d) 394 1407 ls st M x := Rs_next c394_45 rfl
theorem s394_45_21 {L : Nat} {xs : Nat → Int32} {d x : Nat} {M : qxM} {st : List Value} {ls : qxL} : Rs L xs (d) 394 45 ls (.int (nI 21) :: st) M x = Rs L xs (d) 394 1451 ls st M x := Rs_next c394_45 rfl
theorem s394_45_22 {L : Nat} {xs : Nat → Int32} {d x : Nat} {M : qxM} {st : List Value} {ls : qxL} : Rs L xs (d) 394 45 ls (.int (nI 22) :: st) M x = Rs L xs (d) 394 1495 ls st M x := Rs_next c394_45 rfl
theorem s394_45_23 {L : Nat} {xs : Nat → Int32} {d x : Nat} {M : qxM} {st : List Value} {ls : qxL} : Rs L xs (d) 394 45 ls (.int (nI 23) :: st) M x = Rs L xs (d) 394 1546 ls st M x := Rs_next c394_45 rfl
theorem s394_45_24 {L : Nat} {xs : Nat → Int32} {d x : Nat} {M : qxM} {st : List Value} {ls : qxL} : Rs L xs (d) 394 45 ls (.int (nI 24) :: st) M x = Rs L xs (d) 394 1590 ls st M x := Rs_next c394_45 rfl
theorem s394_45_25 {L : Nat} {xs : Nat → Int32} {d x : Nat} {M : qxM} {st : List Value} {ls : qxL} : Rs L xs (d) 394 45 ls (.int (nI 25) :: st) M x = Rs L xs (d) 394 1634 ls st M x := Rs_next c394_45 rfl
theorem s394_45_26 {L : Nat} {xs : Nat → Int32} {d x : Nat} {M : qxM} {st : List Value} {ls : qxL} : Rs L xs (d) 394 45 ls (.int (nI 26) :: st) M x = Rs L xs (d) 394 1678 ls st M x := Rs_next c394_45 rfl
theorem s394_45_27 {L : Nat} {xs : Nat → Int32} {d x : Nat} {M : qxM} {st : List Value} {ls : qxL} : Rs L xs (d) 394 45 ls (.int (nI 27) :: st) M x = Rs L xs (d) 394 1722 ls st M x := Rs_next c394_45 rfl
theorem s394_45_28 {L : Nat} {xs : Nat → Int32} {d x : Nat} {M : qxM} {st : List Value} {ls : qxL} : Rs L xs (d) 394 45 ls (.int (nI 28) :: st) M x = Rs L xs (d) 394 1766 ls st M x := Rs_next c394_45 rfl
theorem s394_45_29 {L : Nat} {xs : Nat → Int32} {d x : Nat} {M : qxM} {st : List Value} {ls : qxL} : Rs L xs (d) 394 45 ls (.int (nI 29) :: st) M x = Rs L xs (d) 394 1822 ls st M x := Rs_next c394_45 rfl
theorem s394_45_30 {L : Nat} {xs : Nat → Int32} {d x : Nat} {M : qxM} {st : List Value} {ls : qxL} : Rs L xs (d) 394 45 ls (.int (nI 30) :: st) M x = Rs L xs (d) 394 1866 ls st M x := Rs_next c394_45 rfl
theorem s394_45_31 {L : Nat} {xs : Nat → Int32} {d x : Nat} {M : qxM} {st : List Value} {ls : qxL} : Rs L xs (d) 394 45 ls (.int (nI 31) :: st) M x = Rs L xs (d) 394 1922 ls st M x := Rs_next c394_45 rfl
theorem s394_45_32 {L : Nat} {xs : Nat → Int32} {d x : Nat} {M : qxM} {st : List Value} {ls : qxL} : Rs L xs (d) 394 45 ls (.int (nI 32) :: st) M x = Rs L xs (d) 394 1985 ls st M x := Rs_next c394_45 rfl
theorem s394_45_33 {L : Nat} {xs : Nat → Int32} {d x : Nat} {M : qxM} {st : List Value} {ls : qxL} : Rs L xs (d) 394 45 ls (.int (nI 33) :: st) M x = Rs L xs (d) 394 2029 ls st M x := Rs_next c394_45 rfl
theorem s394_45_34 {L : Nat} {xs : Nat → Int32} {d x : Nat} {M : qxM} {st : List Value} {ls : qxL} : Rs L xs (d) 394 45 ls (.int (nI 34) :: st) M x = Rs L xs (d) 394 2104 ls st M x := Rs_next c394_45 rfl
theorem s394_45_35 {L : Nat} {xs : Nat → Int32} {d x : Nat} {M : qxM} {st : List Value} {ls : qxL} : Rs L xs (d) 394 45 ls (.int (nI 35) :: st) M x = Rs L xs (d) 394 2179 ls st M x := Rs_next c394_45 rfl
theorem s394_45_36 {L : Nat} {xs : Nat → Int32} {d x : Nat} {M : qxM} {st : List Value} {ls : qxL} : Rs L xs (d) 394 45 ls (.int (nI 36) :: st) M x = Rs L xs (d) 394 2222 ls st M x := Rs_next c394_45 rfl
theorem s394_45_37 {L : Nat} {xs : Nat → Int32} {d x : Nat} {M : qxM} {st : List Value} {ls : qxL} : Rs L xs (d) 394 45 ls (.int (nI 37) :: st) M x = Rs L xs (d) 394 2278 ls st M x := Rs_next c394_45 rfl
theorem s394_45_38 {L : Nat} {xs : Nat → Int32} {d x : Nat} {M : qxM} {st : List Value} {ls : qxL} : Rs L xs (d) 394 45 ls (.int (nI 38) :: st) M x = Rs L xs (d) 394 2334 ls st M x := Rs_next c394_45 rfl
theorem s394_45_39 {L : Nat} {xs : Nat → Int32} {d x : Nat} {M : qxM} {st : List Value} {ls : qxL} : Rs L xs (d) 394 45 ls (.int (nI 39) :: st) M x = Rs L xs (d) 394 2402 ls st M x := Rs_next c394_45 rfl
theorem s394_45_40 {L : Nat} {xs : Nat → Int32} {d x : Nat} {M : qxM} {st : List Value} {ls : qxL} : Rs L xs (d) 394 45 ls (.int (nI 40) :: st) M x = Rs L xs (d) 394 2458 ls st M x := Rs_next c394_45 rfl
theorem s394_45_41 {L : Nat} {xs : Nat → Int32} {d x : Nat} {M : qxM} {st : List Value} {ls : qxL} : Rs L xs (d) 394 45 ls (.int (nI 41) :: st) M x = Rs L xs (d) 394 2502 ls st M x := Rs_next c394_45 rfl
theorem s394_45_42 {L : Nat} {xs : Nat → Int32} {d x : Nat} {M : qxM} {st : List Value} {ls : qxL} : Rs L xs (d) 394 45 ls (.int (nI 42) :: st) M x = Rs L xs (d) 394 2546 ls st M x := Rs_next c394_45 rfl
theorem s394_45_43 {L : Nat} {xs : Nat → Int32} {d x : Nat} {M : qxM} {st : List Value} {ls : qxL} : Rs L xs (d) 394 45 ls (.int (nI 43) :: st) M x = Rs L xs (d) 394 2602 ls st M x := Rs_next c394_45 rfl
theorem s394_45_44 {L : Nat} {xs : Nat → Int32} {d x : Nat} {M : qxM} {st : List Value} {ls : qxL} : Rs L xs (d) 394 45 ls (.int (nI 44) :: st) M x = Rs L xs (d) 394 2658 ls st M x := Rs_next c394_45 rfl
theorem s394_45_45 {L : Nat} {xs : Nat → Int32} {d x : Nat} {M : qxM} {st : List Value} {ls : qxL} : Rs L xs (d) 394 45 ls (.int (nI 45) :: st) M x = Rs L xs (d) 394 2723 ls st M x := Rs_next c394_45 rfl
theorem s394_45_46 {L : Nat} {xs : Nat → Int32} {d x : Nat} {M : qxM} {st : List Value} {ls : qxL} : Rs L xs (d) 394 45 ls (.int (nI 46) :: st) M x = Rs L xs (d) 394 2789 ls st M x := Rs_next c394_45 rfl
theorem s394_45_47 {L : Nat} {xs : Nat → Int32} {d x : Nat} {M : qxM} {st : List Value} {ls : qxL} : Rs L xs (d) 394 45 ls (.int (nI 47) :: st) M x = Rs L xs (d) 394 2833 ls st M x := Rs_next c394_45 rfl
theorem s394_45_48 {L : Nat} {xs : Nat → Int32} {d x : Nat} {M : qxM} {st : List Value} {ls : qxL} : Rs L xs (d) 394 45 ls (.int (nI 48) :: st) M x = Rs L xs (d) 394 2877 ls st M x := Rs_next c394_45 rfl
theorem s394_45_49 {L : Nat} {xs : Nat → Int32} {d x : Nat} {M : qxM} {st : List Value} {ls : qxL} : Rs L xs (d) 394 45 ls (.int (nI 49) :: st) M x = Rs L xs (d) 394 2933 ls st M x := Rs_next c394_45 rfl
theorem s394_45_50 {L : Nat} {xs : Nat → Int32} {d x : Nat} {M : qxM} {st : List Value} {ls : qxL} : Rs L xs (d) 394 45 ls (.int (nI 50) :: st) M x = Rs L xs (d) 394 2989 ls st M x := Rs_next c394_45 rfl
theorem s394_45_51 {L : Nat} {xs : Nat → Int32} {d x : Nat} {M : qxM} {st : List Value} {ls : qxL} : Rs L xs (d) 394 45 ls (.int (nI 51) :: st) M x = Rs L xs (d) 394 3045 ls st M x := Rs_next c394_45 rfl
theorem s394_45_52 {L : Nat} {xs : Nat → Int32} {d x : Nat} {M : qxM} {st : List Value} {ls : qxL} : Rs L xs (d) 394 45 ls (.int (nI 52) :: st) M x = Rs L xs (d) 394 3089 ls st M x := Rs_next c394_45 rfl
theorem s394_45_53 {L : Nat} {xs : Nat → Int32} {d x : Nat} {M : qxM} {st : List Value} {ls : qxL} : Rs L xs (d) 394 45 ls (.int (nI 53) :: st) M x = Rs L xs (d) 394 3133 ls st M x := Rs_next c394_45 rfl
theorem s394_45_54 {L : Nat} {xs : Nat → Int32} {d x : Nat} {M : qxM} {st : List Value} {ls : qxL} : Rs L xs (d) 394 45 ls (.int (nI 54) :: st) M x = Rs L xs (d) 394 3177 ls st M x := Rs_next c394_45 rfl
theorem s394_45_55 {L : Nat} {xs : Nat → Int32} {d x : Nat} {M : qxM} {st : List Value} {ls : qxL} : Rs L xs (d) 394 45 ls (.int (nI 55) :: st) M x = Rs L xs (d) 394 3245 ls st M x := Rs_next c394_45 rfl
theorem s394_45_56 {L : Nat} {xs : Nat → Int32} {d x : Nat} {M : qxM} {st : List Value} {ls : qxL} : Rs L xs (d) 394 45 ls (.int (nI 56) :: st) M x = Rs L xs (d) 394 3301 ls st M x := Rs_next c394_45 rfl
theorem s394_45_57 {L : Nat} {xs : Nat → Int32} {d x : Nat} {M : qxM} {st : List Value} {ls : qxL} : Rs L xs (d) 394 45 ls (.int (nI 57) :: st) M x = Rs L xs (d) 394 3357 ls st M x := Rs_next c394_45 rfl
theorem s394_45_58 {L : Nat} {xs : Nat → Int32} {d x : Nat} {M : qxM} {st : List Value} {ls : qxL} : Rs L xs (d) 394 45 ls (.int (nI 58) :: st) M x = Rs L xs (d) 394 3453 ls st M x := Rs_next c394_45 rfl
theorem s394_45_59 {L : Nat} {xs : Nat → Int32} {d x : Nat} {M : qxM} {st : List Value} {ls : qxL} : Rs L xs (d) 394 45 ls (.int (nI 59) :: st) M x = Rs L xs (d) 394 3521 ls st M x := Rs_next c394_45 rfl
theorem s394_45_60 {L : Nat} {xs : Nat → Int32} {d x : Nat} {M : qxM} {st : List Value} {ls : qxL} : Rs L xs (d) 394 45 ls (.int (nI 60) :: st) M x = Rs L xs (d) 394 3577 ls st M x := Rs_next c394_45 rfl
theorem s394_45_61 {L : Nat} {xs : Nat → Int32} {d x : Nat} {M : qxM} {st : List Value} {ls : qxL} : Rs L xs (d) 394 45 ls (.int (nI 61) :: st) M x = Rs L xs (d) 394 3621 ls st M x := Rs_next c394_45 rfl
theorem s394_45_62 {L : Nat} {xs : Nat → Int32} {d x : Nat} {M : qxM} {st : List Value} {ls : qxL} : Rs L xs (d) 394 45 ls (.int (nI 62) :: st) M x = Rs L xs (d) 394 3634 ls st M x := Rs_next c394_45 rfl
theorem s394_45_63 {L : Nat} {xs : Nat → Int32} {d x : Nat} {M : qxM} {st : List Value} {ls : qxL} : Rs L xs (d) 394 45 ls (.int (nI 63) :: st) M x = Rs L xs (d) 394 3690 ls st M x := Rs_next c394_45 rfl
theorem c394_316 : qx_code 394 316 = some (316, .aload_n 1, 317, 0, 0, 0) := by decide +kernel
theorem s394_316 {L : Nat} {xs : Nat → Int32} {d x : Nat} {M : qxM} {st : List Value} {a0 a2 a3 a4 a5 a6 a7 a8 : Option Value} {z : Nat} : Rs L xs (d) 394 316 [a0, some (.ref z), a2, a3, a4, a5, a6, a7, a8] st M x = Rs L xs (d) 394 317 [a0, some (.ref z), a2, a3, a4, a5, a6, a7, a8] (.ref z :: st) M x := Rs_next c394_316 rfl
theorem c394_317 : qx_code 394 317 = some (317, .aload_n 0, 318, 0, 0, 0) := by decide +kernel
theorem s394_317 {L : Nat} {xs : Nat → Int32} {d x : Nat} {M : qxM} {st : List Value} {a1 a2 a3 a4 a5 a6 a7 a8 : Option Value} {z : Nat} : Rs L xs (d) 394 317 [some (.ref z), a1, a2, a3, a4, a5, a6, a7, a8] st M x = Rs L xs (d) 394 318 [some (.ref z), a1, a2, a3, a4, a5, a6, a7, a8] (.ref z :: st) M x := Rs_next c394_317 rfl
theorem c394_318 : qx_code 394 318 = some (318, .iload 5, 320, 0, 0, 0) := by decide +kernel
theorem s394_318 {L : Nat} {xs : Nat → Int32} {d x : Nat} {M : qxM} {st : List Value} {a0 a1 a2 a3 a4 a6 a7 a8 : Option Value} {z : Int32} : Rs L xs (d) 394 318 [a0, a1, a2, a3, a4, some (.int z), a6, a7, a8] st M x = Rs L xs (d) 394 320 [a0, a1, a2, a3, a4, some (.int z), a6, a7, a8] (.int z :: st) M x := Rs_next c394_318 rfl
theorem c394_320 : qx_code 394 320 = some (320, .iconst 1, 321, 0, 0, 0) := by decide +kernel
theorem s394_320 {L : Nat} {xs : Nat → Int32} {d x : Nat} {M : qxM} {st : List Value} {ls : qxL} : Rs L xs (d) 394 320 ls st M x = Rs L xs (d) 394 321 ls (.int (nI 1) :: st) M x := Rs_next c394_320 rfl
theorem c394_321 : qx_code 394 321 = some (321, .iadd, 322, 0, 0, 0) := by decide +kernel
theorem s394_321 {L : Nat} {xs : Nat → Int32} {d x : Nat} {M : qxM} {st : List Value} {ls : qxL} {z y : Int32} : Rs L xs (d) 394 321 ls (.int y :: .int z :: st) M x = Rs L xs (d) 394 322 ls (.int (z + y) :: st) M x := Rs_next c394_321 rfl
theorem c394_322 : qx_code 394 322 = some (322, .iaload, 323, 0, 0, 0) := by decide +kernel
theorem s394_322s {L : Nat} {xs : Nat → Int32} {d x : Nat} {M : qxM} {st : List Value} {ls : qxL} {j : Int32} (hj : qx_ib j L = true) : Rs L xs (d) 394 322 ls (.int j :: .ref 1 :: st) M x = Rs L xs (d) 394 323 ls (.int (xs j.toNatClampNeg) :: st) M x := Rs_unless (qx_ib_not hj) c394_322 rfl
theorem c394_323 : qx_code 394 323 = some (323, .aload_n 0, 324, 0, 0, 0) := by decide +kernel
theorem s394_323 {L : Nat} {xs : Nat → Int32} {d x : Nat} {M : qxM} {st : List Value} {a1 a2 a3 a4 a5 a6 a7 a8 : Option Value} {z : Nat} : Rs L xs (d) 394 323 [some (.ref z), a1, a2, a3, a4, a5, a6, a7, a8] st M x = Rs L xs (d) 394 324 [some (.ref z), a1, a2, a3, a4, a5, a6, a7, a8] (.ref z :: st) M x := Rs_next c394_323 rfl
theorem c394_324 : qx_code 394 324 = some (324, .iload 5, 326, 0, 0, 0) := by decide +kernel
theorem s394_324 {L : Nat} {xs : Nat → Int32} {d x : Nat} {M : qxM} {st : List Value} {a0 a1 a2 a3 a4 a6 a7 a8 : Option Value} {z : Int32} : Rs L xs (d) 394 324 [a0, a1, a2, a3, a4, some (.int z), a6, a7, a8] st M x = Rs L xs (d) 394 326 [a0, a1, a2, a3, a4, some (.int z), a6, a7, a8] (.int z :: st) M x := Rs_next c394_324 rfl
theorem c394_326 : qx_code 394 326 = some (326, .iconst 2, 327, 0, 0, 0) := by decide +kernel
theorem s394_326 {L : Nat} {xs : Nat → Int32} {d x : Nat} {M : qxM} {st : List Value} {ls : qxL} : Rs L xs (d) 394 326 ls st M x = Rs L xs (d) 394 327 ls (.int (nI 2) :: st) M x := Rs_next c394_326 rfl
theorem c394_327 : qx_code 394 327 = some (327, .iadd, 328, 0, 0, 0) := by decide +kernel
theorem s394_327 {L : Nat} {xs : Nat → Int32} {d x : Nat} {M : qxM} {st : List Value} {ls : qxL} {z y : Int32} : Rs L xs (d) 394 327 ls (.int y :: .int z :: st) M x = Rs L xs (d) 394 328 ls (.int (z + y) :: st) M x := Rs_next c394_327 rfl
theorem c394_328 : qx_code 394 328 = some (328, .iaload, 329, 0, 0, 0) := by decide +kernel
theorem s394_328s {L : Nat} {xs : Nat → Int32} {d x : Nat} {M : qxM} {st : List Value} {ls : qxL} {j : Int32} (hj : qx_ib j L = true) : Rs L xs (d) 394 328 ls (.int j :: .ref 1 :: st) M x = Rs L xs (d) 394 329 ls (.int (xs j.toNatClampNeg) :: st) M x := Rs_unless (qx_ib_not hj) c394_328 rfl
theorem c394_329 : qx_code 394 329 = some (329, .aload_n 0, 330, 0, 0, 0) := by decide +kernel
theorem s394_329 {L : Nat} {xs : Nat → Int32} {d x : Nat} {M : qxM} {st : List Value} {a1 a2 a3 a4 a5 a6 a7 a8 : Option Value} {z : Nat} : Rs L xs (d) 394 329 [some (.ref z), a1, a2, a3, a4, a5, a6, a7, a8] st M x = Rs L xs (d) 394 330 [some (.ref z), a1, a2, a3, a4, a5, a6, a7, a8] (.ref z :: st) M x := Rs_next c394_329 rfl
theorem c394_330 : qx_code 394 330 = some (330, .iload 5, 332, 0, 0, 0) := by decide +kernel
theorem s394_330 {L : Nat} {xs : Nat → Int32} {d x : Nat} {M : qxM} {st : List Value} {a0 a1 a2 a3 a4 a6 a7 a8 : Option Value} {z : Int32} : Rs L xs (d) 394 330 [a0, a1, a2, a3, a4, some (.int z), a6, a7, a8] st M x = Rs L xs (d) 394 332 [a0, a1, a2, a3, a4, some (.int z), a6, a7, a8] (.int z :: st) M x := Rs_next c394_330 rfl
theorem c394_332 : qx_code 394 332 = some (332, .iconst 3, 333, 0, 0, 0) := by decide +kernel
theorem s394_332 {L : Nat} {xs : Nat → Int32} {d x : Nat} {M : qxM} {st : List Value} {ls : qxL} : Rs L xs (d) 394 332 ls st M x = Rs L xs (d) 394 333 ls (.int (nI 3) :: st) M x := Rs_next c394_332 rfl
theorem c394_333 : qx_code 394 333 = some (333, .iadd, 334, 0, 0, 0) := by decide +kernel
theorem s394_333 {L : Nat} {xs : Nat → Int32} {d x : Nat} {M : qxM} {st : List Value} {ls : qxL} {z y : Int32} : Rs L xs (d) 394 333 ls (.int y :: .int z :: st) M x = Rs L xs (d) 394 334 ls (.int (z + y) :: st) M x := Rs_next c394_333 rfl
theorem c394_334 : qx_code 394 334 = some (334, .iaload, 335, 0, 0, 0) := by decide +kernel
theorem s394_334s {L : Nat} {xs : Nat → Int32} {d x : Nat} {M : qxM} {st : List Value} {ls : qxL} {j : Int32} (hj : qx_ib j L = true) : Rs L xs (d) 394 334 ls (.int j :: .ref 1 :: st) M x = Rs L xs (d) 394 335 ls (.int (xs j.toNatClampNeg) :: st) M x := Rs_unless (qx_ib_not hj) c394_334 rfl
theorem c394_335 : qx_code 394 335 = some (335, .aload_n 0, 336, 0, 0, 0) := by decide +kernel
theorem s394_335 {L : Nat} {xs : Nat → Int32} {d x : Nat} {M : qxM} {st : List Value} {a1 a2 a3 a4 a5 a6 a7 a8 : Option Value} {z : Nat} : Rs L xs (d) 394 335 [some (.ref z), a1, a2, a3, a4, a5, a6, a7, a8] st M x = Rs L xs (d) 394 336 [some (.ref z), a1, a2, a3, a4, a5, a6, a7, a8] (.ref z :: st) M x := Rs_next c394_335 rfl
theorem c394_336 : qx_code 394 336 = some (336, .iload 5, 338, 0, 0, 0) := by decide +kernel
theorem s394_336 {L : Nat} {xs : Nat → Int32} {d x : Nat} {M : qxM} {st : List Value} {a0 a1 a2 a3 a4 a6 a7 a8 : Option Value} {z : Int32} : Rs L xs (d) 394 336 [a0, a1, a2, a3, a4, some (.int z), a6, a7, a8] st M x = Rs L xs (d) 394 338 [a0, a1, a2, a3, a4, some (.int z), a6, a7, a8] (.int z :: st) M x := Rs_next c394_336 rfl
theorem c394_338 : qx_code 394 338 = some (338, .iconst 4, 339, 0, 0, 0) := by decide +kernel
theorem s394_338 {L : Nat} {xs : Nat → Int32} {d x : Nat} {M : qxM} {st : List Value} {ls : qxL} : Rs L xs (d) 394 338 ls st M x = Rs L xs (d) 394 339 ls (.int (nI 4) :: st) M x := Rs_next c394_338 rfl
theorem c394_339 : qx_code 394 339 = some (339, .iadd, 340, 0, 0, 0) := by decide +kernel
theorem s394_339 {L : Nat} {xs : Nat → Int32} {d x : Nat} {M : qxM} {st : List Value} {ls : qxL} {z y : Int32} : Rs L xs (d) 394 339 ls (.int y :: .int z :: st) M x = Rs L xs (d) 394 340 ls (.int (z + y) :: st) M x := Rs_next c394_339 rfl
theorem c394_340 : qx_code 394 340 = some (340, .iaload, 341, 0, 0, 0) := by decide +kernel
theorem s394_340s {L : Nat} {xs : Nat → Int32} {d x : Nat} {M : qxM} {st : List Value} {ls : qxL} {j : Int32} (hj : qx_ib j L = true) : Rs L xs (d) 394 340 ls (.int j :: .ref 1 :: st) M x = Rs L xs (d) 394 341 ls (.int (xs j.toNatClampNeg) :: st) M x := Rs_unless (qx_ib_not hj) c394_340 rfl
theorem c394_341 : qx_code 394 341 = some (341, .aload_n 0, 342, 0, 0, 0) := by decide +kernel
theorem s394_341 {L : Nat} {xs : Nat → Int32} {d x : Nat} {M : qxM} {st : List Value} {a1 a2 a3 a4 a5 a6 a7 a8 : Option Value} {z : Nat} : Rs L xs (d) 394 341 [some (.ref z), a1, a2, a3, a4, a5, a6, a7, a8] st M x = Rs L xs (d) 394 342 [some (.ref z), a1, a2, a3, a4, a5, a6, a7, a8] (.ref z :: st) M x := Rs_next c394_341 rfl
theorem c394_342 : qx_code 394 342 = some (342, .iload 5, 344, 0, 0, 0) := by decide +kernel
theorem s394_342 {L : Nat} {xs : Nat → Int32} {d x : Nat} {M : qxM} {st : List Value} {a0 a1 a2 a3 a4 a6 a7 a8 : Option Value} {z : Int32} : Rs L xs (d) 394 342 [a0, a1, a2, a3, a4, some (.int z), a6, a7, a8] st M x = Rs L xs (d) 394 344 [a0, a1, a2, a3, a4, some (.int z), a6, a7, a8] (.int z :: st) M x := Rs_next c394_342 rfl
theorem c394_344 : qx_code 394 344 = some (344, .iconst 5, 345, 0, 0, 0) := by decide +kernel
theorem s394_344 {L : Nat} {xs : Nat → Int32} {d x : Nat} {M : qxM} {st : List Value} {ls : qxL} : Rs L xs (d) 394 344 ls st M x = Rs L xs (d) 394 345 ls (.int (nI 5) :: st) M x := Rs_next c394_344 rfl
theorem c394_345 : qx_code 394 345 = some (345, .iadd, 346, 0, 0, 0) := by decide +kernel
theorem s394_345 {L : Nat} {xs : Nat → Int32} {d x : Nat} {M : qxM} {st : List Value} {ls : qxL} {z y : Int32} : Rs L xs (d) 394 345 ls (.int y :: .int z :: st) M x = Rs L xs (d) 394 346 ls (.int (z + y) :: st) M x := Rs_next c394_345 rfl
theorem c394_346 : qx_code 394 346 = some (346, .iaload, 347, 0, 0, 0) := by decide +kernel
theorem s394_346s {L : Nat} {xs : Nat → Int32} {d x : Nat} {M : qxM} {st : List Value} {ls : qxL} {j : Int32} (hj : qx_ib j L = true) : Rs L xs (d) 394 346 ls (.int j :: .ref 1 :: st) M x = Rs L xs (d) 394 347 ls (.int (xs j.toNatClampNeg) :: st) M x := Rs_unless (qx_ib_not hj) c394_346 rfl
theorem c394_347 : qx_code 394 347 = some (347, .invokevirtual 207, 350, 92, 6, 415) := by decide +kernel
theorem s394_347 {L : Nat} {xs : Nat → Int32} {d x : Nat} {M : qxM} {st : List Value} {ls : qxL} {t : Nat} {z0 : Int32} {z1 : Int32} {z2 : Int32} {z3 : Int32} {z4 : Int32} (hk : qx_kd t = 17) (hs : st.length ≤ 4) : Rs L xs (d + 1) 394 347 ls (.int z4 :: .int z3 :: .int z2 :: .int z1 :: .int z0 :: .ref t :: st) M x = (Rs L xs d 92 0 [some (.ref t), some (.int z0), some (.int z1), some (.int z2), some (.int z3), some (.int z4)] [] M 0).bind (qx_kn L xs (d + 1) 394 347 350 92 ls st x) := by
  have h1 : qx_act L xs (qx_rt 394) (347, .invokevirtual 207, 350, 92, 6, 415) ls (.int z4 :: .int z3 :: .int z2 :: .int z1 :: .int z0 :: .ref t :: st) M = if 6 ≤ (.int z4 :: .int z3 :: .int z2 :: .int z1 :: .int z0 :: .ref t :: st).length ∧ st.length ≤ 4 then some (.inr (.inr (.inr (92, [.ref t, .int z0, .int z1, .int z2, .int z3, .int z4], st)))) else none := rfl
  rw [if_pos ⟨by simp [List.length_cons]; try omega, hs⟩] at h1
  have h2 := qx_kd_obj (k := 7) (by decide) hk
  exact Rs_call c394_347 h1 (by rw [show qx_args 92 [.ref t, .int z0, .int z1, .int z2, .int z3, .int z4] = decide (qx_sh t = some (.inl 7)) from rfl]; exact decide_eq_true h2)
theorem c394_350 : qx_code 394 350 = some (350, .aload_n 2, 351, 0, 0, 0) := by decide +kernel
theorem s394_350 {L : Nat} {xs : Nat → Int32} {d x : Nat} {M : qxM} {st : List Value} {a0 a1 a3 a4 a5 a6 a7 a8 : Option Value} {z : Nat} : Rs L xs (d) 394 350 [a0, a1, some (.ref z), a3, a4, a5, a6, a7, a8] st M x = Rs L xs (d) 394 351 [a0, a1, some (.ref z), a3, a4, a5, a6, a7, a8] (.ref z :: st) M x := Rs_next c394_350 rfl
theorem c394_351 : qx_code 394 351 = some (351, .aload_n 0, 352, 0, 0, 0) := by decide +kernel
theorem s394_351 {L : Nat} {xs : Nat → Int32} {d x : Nat} {M : qxM} {st : List Value} {a1 a2 a3 a4 a5 a6 a7 a8 : Option Value} {z : Nat} : Rs L xs (d) 394 351 [some (.ref z), a1, a2, a3, a4, a5, a6, a7, a8] st M x = Rs L xs (d) 394 352 [some (.ref z), a1, a2, a3, a4, a5, a6, a7, a8] (.ref z :: st) M x := Rs_next c394_351 rfl
theorem c394_352 : qx_code 394 352 = some (352, .iload 5, 354, 0, 0, 0) := by decide +kernel
theorem s394_352 {L : Nat} {xs : Nat → Int32} {d x : Nat} {M : qxM} {st : List Value} {a0 a1 a2 a3 a4 a6 a7 a8 : Option Value} {z : Int32} : Rs L xs (d) 394 352 [a0, a1, a2, a3, a4, some (.int z), a6, a7, a8] st M x = Rs L xs (d) 394 354 [a0, a1, a2, a3, a4, some (.int z), a6, a7, a8] (.int z :: st) M x := Rs_next c394_352 rfl
theorem c394_354 : qx_code 394 354 = some (354, .iconst 1, 355, 0, 0, 0) := by decide +kernel
theorem s394_354 {L : Nat} {xs : Nat → Int32} {d x : Nat} {M : qxM} {st : List Value} {ls : qxL} : Rs L xs (d) 394 354 ls st M x = Rs L xs (d) 394 355 ls (.int (nI 1) :: st) M x := Rs_next c394_354 rfl
theorem c394_355 : qx_code 394 355 = some (355, .iadd, 356, 0, 0, 0) := by decide +kernel
theorem s394_355 {L : Nat} {xs : Nat → Int32} {d x : Nat} {M : qxM} {st : List Value} {ls : qxL} {z y : Int32} : Rs L xs (d) 394 355 ls (.int y :: .int z :: st) M x = Rs L xs (d) 394 356 ls (.int (z + y) :: st) M x := Rs_next c394_355 rfl
theorem c394_356 : qx_code 394 356 = some (356, .iaload, 357, 0, 0, 0) := by decide +kernel
theorem s394_356s {L : Nat} {xs : Nat → Int32} {d x : Nat} {M : qxM} {st : List Value} {ls : qxL} {j : Int32} (hj : qx_ib j L = true) : Rs L xs (d) 394 356 ls (.int j :: .ref 1 :: st) M x = Rs L xs (d) 394 357 ls (.int (xs j.toNatClampNeg) :: st) M x := Rs_unless (qx_ib_not hj) c394_356 rfl
theorem c394_357 : qx_code 394 357 = some (357, .aload_n 0, 358, 0, 0, 0) := by decide +kernel
theorem s394_357 {L : Nat} {xs : Nat → Int32} {d x : Nat} {M : qxM} {st : List Value} {a1 a2 a3 a4 a5 a6 a7 a8 : Option Value} {z : Nat} : Rs L xs (d) 394 357 [some (.ref z), a1, a2, a3, a4, a5, a6, a7, a8] st M x = Rs L xs (d) 394 358 [some (.ref z), a1, a2, a3, a4, a5, a6, a7, a8] (.ref z :: st) M x := Rs_next c394_357 rfl
theorem c394_358 : qx_code 394 358 = some (358, .iload 5, 360, 0, 0, 0) := by decide +kernel
theorem s394_358 {L : Nat} {xs : Nat → Int32} {d x : Nat} {M : qxM} {st : List Value} {a0 a1 a2 a3 a4 a6 a7 a8 : Option Value} {z : Int32} : Rs L xs (d) 394 358 [a0, a1, a2, a3, a4, some (.int z), a6, a7, a8] st M x = Rs L xs (d) 394 360 [a0, a1, a2, a3, a4, some (.int z), a6, a7, a8] (.int z :: st) M x := Rs_next c394_358 rfl
theorem c394_360 : qx_code 394 360 = some (360, .iconst 2, 361, 0, 0, 0) := by decide +kernel
theorem s394_360 {L : Nat} {xs : Nat → Int32} {d x : Nat} {M : qxM} {st : List Value} {ls : qxL} : Rs L xs (d) 394 360 ls st M x = Rs L xs (d) 394 361 ls (.int (nI 2) :: st) M x := Rs_next c394_360 rfl
theorem c394_361 : qx_code 394 361 = some (361, .iadd, 362, 0, 0, 0) := by decide +kernel
theorem s394_361 {L : Nat} {xs : Nat → Int32} {d x : Nat} {M : qxM} {st : List Value} {ls : qxL} {z y : Int32} : Rs L xs (d) 394 361 ls (.int y :: .int z :: st) M x = Rs L xs (d) 394 362 ls (.int (z + y) :: st) M x := Rs_next c394_361 rfl
theorem c394_362 : qx_code 394 362 = some (362, .iaload, 363, 0, 0, 0) := by decide +kernel
theorem s394_362s {L : Nat} {xs : Nat → Int32} {d x : Nat} {M : qxM} {st : List Value} {ls : qxL} {j : Int32} (hj : qx_ib j L = true) : Rs L xs (d) 394 362 ls (.int j :: .ref 1 :: st) M x = Rs L xs (d) 394 363 ls (.int (xs j.toNatClampNeg) :: st) M x := Rs_unless (qx_ib_not hj) c394_362 rfl
theorem c394_363 : qx_code 394 363 = some (363, .aload_n 0, 364, 0, 0, 0) := by decide +kernel
theorem s394_363 {L : Nat} {xs : Nat → Int32} {d x : Nat} {M : qxM} {st : List Value} {a1 a2 a3 a4 a5 a6 a7 a8 : Option Value} {z : Nat} : Rs L xs (d) 394 363 [some (.ref z), a1, a2, a3, a4, a5, a6, a7, a8] st M x = Rs L xs (d) 394 364 [some (.ref z), a1, a2, a3, a4, a5, a6, a7, a8] (.ref z :: st) M x := Rs_next c394_363 rfl
theorem c394_364 : qx_code 394 364 = some (364, .iload 5, 366, 0, 0, 0) := by decide +kernel
theorem s394_364 {L : Nat} {xs : Nat → Int32} {d x : Nat} {M : qxM} {st : List Value} {a0 a1 a2 a3 a4 a6 a7 a8 : Option Value} {z : Int32} : Rs L xs (d) 394 364 [a0, a1, a2, a3, a4, some (.int z), a6, a7, a8] st M x = Rs L xs (d) 394 366 [a0, a1, a2, a3, a4, some (.int z), a6, a7, a8] (.int z :: st) M x := Rs_next c394_364 rfl
theorem c394_366 : qx_code 394 366 = some (366, .iconst 3, 367, 0, 0, 0) := by decide +kernel
theorem s394_366 {L : Nat} {xs : Nat → Int32} {d x : Nat} {M : qxM} {st : List Value} {ls : qxL} : Rs L xs (d) 394 366 ls st M x = Rs L xs (d) 394 367 ls (.int (nI 3) :: st) M x := Rs_next c394_366 rfl
theorem c394_367 : qx_code 394 367 = some (367, .iadd, 368, 0, 0, 0) := by decide +kernel
theorem s394_367 {L : Nat} {xs : Nat → Int32} {d x : Nat} {M : qxM} {st : List Value} {ls : qxL} {z y : Int32} : Rs L xs (d) 394 367 ls (.int y :: .int z :: st) M x = Rs L xs (d) 394 368 ls (.int (z + y) :: st) M x := Rs_next c394_367 rfl
theorem c394_368 : qx_code 394 368 = some (368, .iaload, 369, 0, 0, 0) := by decide +kernel
theorem s394_368s {L : Nat} {xs : Nat → Int32} {d x : Nat} {M : qxM} {st : List Value} {ls : qxL} {j : Int32} (hj : qx_ib j L = true) : Rs L xs (d) 394 368 ls (.int j :: .ref 1 :: st) M x = Rs L xs (d) 394 369 ls (.int (xs j.toNatClampNeg) :: st) M x := Rs_unless (qx_ib_not hj) c394_368 rfl
theorem c394_369 : qx_code 394 369 = some (369, .aload_n 0, 370, 0, 0, 0) := by decide +kernel
theorem s394_369 {L : Nat} {xs : Nat → Int32} {d x : Nat} {M : qxM} {st : List Value} {a1 a2 a3 a4 a5 a6 a7 a8 : Option Value} {z : Nat} : Rs L xs (d) 394 369 [some (.ref z), a1, a2, a3, a4, a5, a6, a7, a8] st M x = Rs L xs (d) 394 370 [some (.ref z), a1, a2, a3, a4, a5, a6, a7, a8] (.ref z :: st) M x := Rs_next c394_369 rfl
theorem c394_370 : qx_code 394 370 = some (370, .iload 5, 372, 0, 0, 0) := by decide +kernel
theorem s394_370 {L : Nat} {xs : Nat → Int32} {d x : Nat} {M : qxM} {st : List Value} {a0 a1 a2 a3 a4 a6 a7 a8 : Option Value} {z : Int32} : Rs L xs (d) 394 370 [a0, a1, a2, a3, a4, some (.int z), a6, a7, a8] st M x = Rs L xs (d) 394 372 [a0, a1, a2, a3, a4, some (.int z), a6, a7, a8] (.int z :: st) M x := Rs_next c394_370 rfl
theorem c394_372 : qx_code 394 372 = some (372, .iconst 4, 373, 0, 0, 0) := by decide +kernel
theorem s394_372 {L : Nat} {xs : Nat → Int32} {d x : Nat} {M : qxM} {st : List Value} {ls : qxL} : Rs L xs (d) 394 372 ls st M x = Rs L xs (d) 394 373 ls (.int (nI 4) :: st) M x := Rs_next c394_372 rfl
theorem c394_373 : qx_code 394 373 = some (373, .iadd, 374, 0, 0, 0) := by decide +kernel
theorem s394_373 {L : Nat} {xs : Nat → Int32} {d x : Nat} {M : qxM} {st : List Value} {ls : qxL} {z y : Int32} : Rs L xs (d) 394 373 ls (.int y :: .int z :: st) M x = Rs L xs (d) 394 374 ls (.int (z + y) :: st) M x := Rs_next c394_373 rfl
theorem c394_374 : qx_code 394 374 = some (374, .iaload, 375, 0, 0, 0) := by decide +kernel
theorem s394_374s {L : Nat} {xs : Nat → Int32} {d x : Nat} {M : qxM} {st : List Value} {ls : qxL} {j : Int32} (hj : qx_ib j L = true) : Rs L xs (d) 394 374 ls (.int j :: .ref 1 :: st) M x = Rs L xs (d) 394 375 ls (.int (xs j.toNatClampNeg) :: st) M x := Rs_unless (qx_ib_not hj) c394_374 rfl
theorem c394_375 : qx_code 394 375 = some (375, .aload_n 0, 376, 0, 0, 0) := by decide +kernel
theorem s394_375 {L : Nat} {xs : Nat → Int32} {d x : Nat} {M : qxM} {st : List Value} {a1 a2 a3 a4 a5 a6 a7 a8 : Option Value} {z : Nat} : Rs L xs (d) 394 375 [some (.ref z), a1, a2, a3, a4, a5, a6, a7, a8] st M x = Rs L xs (d) 394 376 [some (.ref z), a1, a2, a3, a4, a5, a6, a7, a8] (.ref z :: st) M x := Rs_next c394_375 rfl
theorem c394_376 : qx_code 394 376 = some (376, .iload 5, 378, 0, 0, 0) := by decide +kernel
theorem s394_376 {L : Nat} {xs : Nat → Int32} {d x : Nat} {M : qxM} {st : List Value} {a0 a1 a2 a3 a4 a6 a7 a8 : Option Value} {z : Int32} : Rs L xs (d) 394 376 [a0, a1, a2, a3, a4, some (.int z), a6, a7, a8] st M x = Rs L xs (d) 394 378 [a0, a1, a2, a3, a4, some (.int z), a6, a7, a8] (.int z :: st) M x := Rs_next c394_376 rfl
theorem c394_378 : qx_code 394 378 = some (378, .iconst 5, 379, 0, 0, 0) := by decide +kernel
theorem s394_378 {L : Nat} {xs : Nat → Int32} {d x : Nat} {M : qxM} {st : List Value} {ls : qxL} : Rs L xs (d) 394 378 ls st M x = Rs L xs (d) 394 379 ls (.int (nI 5) :: st) M x := Rs_next c394_378 rfl
theorem c394_379 : qx_code 394 379 = some (379, .iadd, 380, 0, 0, 0) := by decide +kernel
theorem s394_379 {L : Nat} {xs : Nat → Int32} {d x : Nat} {M : qxM} {st : List Value} {ls : qxL} {z y : Int32} : Rs L xs (d) 394 379 ls (.int y :: .int z :: st) M x = Rs L xs (d) 394 380 ls (.int (z + y) :: st) M x := Rs_next c394_379 rfl
theorem c394_380 : qx_code 394 380 = some (380, .iaload, 381, 0, 0, 0) := by decide +kernel
theorem s394_380s {L : Nat} {xs : Nat → Int32} {d x : Nat} {M : qxM} {st : List Value} {ls : qxL} {j : Int32} (hj : qx_ib j L = true) : Rs L xs (d) 394 380 ls (.int j :: .ref 1 :: st) M x = Rs L xs (d) 394 381 ls (.int (xs j.toNatClampNeg) :: st) M x := Rs_unless (qx_ib_not hj) c394_380 rfl
theorem c394_381 : qx_code 394 381 = some (381, .invokevirtual 211, 384, 185, 6, 1617) := by decide +kernel
theorem s394_381 {L : Nat} {xs : Nat → Int32} {d x : Nat} {M : qxM} {st : List Value} {ls : qxL} {t : Nat} {z0 : Int32} {z1 : Int32} {z2 : Int32} {z3 : Int32} {z4 : Int32} (hk : qx_kd t = 18) (hs : st.length ≤ 4) : Rs L xs (d + 1) 394 381 ls (.int z4 :: .int z3 :: .int z2 :: .int z1 :: .int z0 :: .ref t :: st) M x = (Rs L xs d 185 0 [some (.ref t), some (.int z0), some (.int z1), some (.int z2), some (.int z3), some (.int z4)] [] M 0).bind (qx_kn L xs (d + 1) 394 381 384 185 ls st x) := by
  have h1 : qx_act L xs (qx_rt 394) (381, .invokevirtual 211, 384, 185, 6, 1617) ls (.int z4 :: .int z3 :: .int z2 :: .int z1 :: .int z0 :: .ref t :: st) M = if 6 ≤ (.int z4 :: .int z3 :: .int z2 :: .int z1 :: .int z0 :: .ref t :: st).length ∧ st.length ≤ 4 then some (.inr (.inr (.inr (185, [.ref t, .int z0, .int z1, .int z2, .int z3, .int z4], st)))) else none := rfl
  rw [if_pos ⟨by simp [List.length_cons]; try omega, hs⟩] at h1
  have h2 := qx_kd_obj (k := 8) (by decide) hk
  exact Rs_call c394_381 h1 (by rw [show qx_args 185 [.ref t, .int z0, .int z1, .int z2, .int z3, .int z4] = decide (qx_sh t = some (.inl 8)) from rfl]; exact decide_eq_true h2)
theorem c394_384 : qx_code 394 384 = some (384, .if_icmp .eq 3362, 387, 3746, 0, 0) := by decide +kernel
theorem s394_384 {L : Nat} {xs : Nat → Int32} {d x : Nat} {M : qxM} {st : List Value} {ls : qxL} {z y : Int32} : Rs L xs (d) 394 384 ls (.int y :: .int z :: st) M x = if z = y then Rs L xs (d) 394 3746 ls st M x else Rs L xs (d) 394 387 ls st M x := Rs_ite c394_384 rfl
theorem c394_389 : qx_code 394 389 = some (389, .aload_n 1, 390, 0, 0, 0) := by decide +kernel
theorem s394_389 {L : Nat} {xs : Nat → Int32} {d x : Nat} {M : qxM} {st : List Value} {a0 a2 a3 a4 a5 a6 a7 a8 : Option Value} {z : Nat} : Rs L xs (d) 394 389 [a0, some (.ref z), a2, a3, a4, a5, a6, a7, a8] st M x = Rs L xs (d) 394 390 [a0, some (.ref z), a2, a3, a4, a5, a6, a7, a8] (.ref z :: st) M x := Rs_next c394_389 rfl
theorem c394_390 : qx_code 394 390 = some (390, .aload_n 0, 391, 0, 0, 0) := by decide +kernel
theorem s394_390 {L : Nat} {xs : Nat → Int32} {d x : Nat} {M : qxM} {st : List Value} {a1 a2 a3 a4 a5 a6 a7 a8 : Option Value} {z : Nat} : Rs L xs (d) 394 390 [some (.ref z), a1, a2, a3, a4, a5, a6, a7, a8] st M x = Rs L xs (d) 394 391 [some (.ref z), a1, a2, a3, a4, a5, a6, a7, a8] (.ref z :: st) M x := Rs_next c394_390 rfl
theorem c394_391 : qx_code 394 391 = some (391, .iload 5, 393, 0, 0, 0) := by decide +kernel
theorem s394_391 {L : Nat} {xs : Nat → Int32} {d x : Nat} {M : qxM} {st : List Value} {a0 a1 a2 a3 a4 a6 a7 a8 : Option Value} {z : Int32} : Rs L xs (d) 394 391 [a0, a1, a2, a3, a4, some (.int z), a6, a7, a8] st M x = Rs L xs (d) 394 393 [a0, a1, a2, a3, a4, some (.int z), a6, a7, a8] (.int z :: st) M x := Rs_next c394_391 rfl
theorem c394_393 : qx_code 394 393 = some (393, .iconst 1, 394, 0, 0, 0) := by decide +kernel
theorem s394_393 {L : Nat} {xs : Nat → Int32} {d x : Nat} {M : qxM} {st : List Value} {ls : qxL} : Rs L xs (d) 394 393 ls st M x = Rs L xs (d) 394 394 ls (.int (nI 1) :: st) M x := Rs_next c394_393 rfl
theorem c394_394 : qx_code 394 394 = some (394, .iadd, 395, 0, 0, 0) := by decide +kernel
theorem s394_394 {L : Nat} {xs : Nat → Int32} {d x : Nat} {M : qxM} {st : List Value} {ls : qxL} {z y : Int32} : Rs L xs (d) 394 394 ls (.int y :: .int z :: st) M x = Rs L xs (d) 394 395 ls (.int (z + y) :: st) M x := Rs_next c394_394 rfl
theorem c394_395 : qx_code 394 395 = some (395, .iaload, 396, 0, 0, 0) := by decide +kernel
theorem s394_395s {L : Nat} {xs : Nat → Int32} {d x : Nat} {M : qxM} {st : List Value} {ls : qxL} {j : Int32} (hj : qx_ib j L = true) : Rs L xs (d) 394 395 ls (.int j :: .ref 1 :: st) M x = Rs L xs (d) 394 396 ls (.int (xs j.toNatClampNeg) :: st) M x := Rs_unless (qx_ib_not hj) c394_395 rfl
theorem c394_396 : qx_code 394 396 = some (396, .aload_n 3, 397, 0, 0, 0) := by decide +kernel
theorem s394_396 {L : Nat} {xs : Nat → Int32} {d x : Nat} {M : qxM} {st : List Value} {a0 a1 a2 a4 a5 a6 a7 a8 : Option Value} {z : Nat} : Rs L xs (d) 394 396 [a0, a1, a2, some (.ref z), a4, a5, a6, a7, a8] st M x = Rs L xs (d) 394 397 [a0, a1, a2, some (.ref z), a4, a5, a6, a7, a8] (.ref z :: st) M x := Rs_next c394_396 rfl
theorem c394_397 : qx_code 394 397 = some (397, .invokestatic 212, 400, 335, 3, 443) := by decide +kernel
theorem s394_397 {L : Nat} {xs : Nat → Int32} {d x : Nat} {M : qxM} {st : List Value} {ls : qxL} {z0 : Nat} {z1 : Int32} {z2 : Nat} (hs : st.length ≤ 4) : Rs L xs (d + 1) 394 397 ls (.ref z2 :: .int z1 :: .ref z0 :: st) M x = (Rs L xs d 335 0 [some (.ref z0), some (.int z1), some (.ref z2), none] [] M 0).bind (qx_kn L xs (d + 1) 394 397 400 335 ls st x) := by
  have h1 : qx_act L xs (qx_rt 394) (397, .invokestatic 212, 400, 335, 3, 443) ls (.ref z2 :: .int z1 :: .ref z0 :: st) M = if 3 ≤ (.ref z2 :: .int z1 :: .ref z0 :: st).length ∧ st.length ≤ 4 then some (.inr (.inr (.inr (335, [.ref z0, .int z1, .ref z2], st)))) else none := rfl
  rw [if_pos ⟨by simp [List.length_cons]; try omega, hs⟩] at h1
  exact Rs_call c394_397 h1 rfl
theorem c394_400 : qx_code 394 400 = some (400, .istore 6, 402, 0, 0, 0) := by decide +kernel
theorem s394_400i {L : Nat} {xs : Nat → Int32} {d x : Nat} {M : qxM} {st : List Value} {a0 a1 a2 a3 a4 a6 a7 a8 : Option Value} {z : Int32} {y : Int32} : Rs L xs (d) 394 400 [a0, a1, a2, a3, a4, some (.int y), a6, a7, a8] (.int z :: st) M x = Rs L xs (d) 394 402 [a0, a1, a2, a3, a4, some (.int y), some (.int z), a7, a8] st M x := Rs_next c394_400 rfl
theorem c394_402 : qx_code 394 402 = some (402, .aload_n 2, 403, 0, 0, 0) := by decide +kernel
theorem s394_402 {L : Nat} {xs : Nat → Int32} {d x : Nat} {M : qxM} {st : List Value} {a0 a1 a3 a4 a5 a6 a7 a8 : Option Value} {z : Nat} : Rs L xs (d) 394 402 [a0, a1, some (.ref z), a3, a4, a5, a6, a7, a8] st M x = Rs L xs (d) 394 403 [a0, a1, some (.ref z), a3, a4, a5, a6, a7, a8] (.ref z :: st) M x := Rs_next c394_402 rfl
theorem c394_403 : qx_code 394 403 = some (403, .aload_n 0, 404, 0, 0, 0) := by decide +kernel
theorem s394_403 {L : Nat} {xs : Nat → Int32} {d x : Nat} {M : qxM} {st : List Value} {a1 a2 a3 a4 a5 a6 a7 a8 : Option Value} {z : Nat} : Rs L xs (d) 394 403 [some (.ref z), a1, a2, a3, a4, a5, a6, a7, a8] st M x = Rs L xs (d) 394 404 [some (.ref z), a1, a2, a3, a4, a5, a6, a7, a8] (.ref z :: st) M x := Rs_next c394_403 rfl
theorem c394_404 : qx_code 394 404 = some (404, .iload 5, 406, 0, 0, 0) := by decide +kernel
theorem s394_404 {L : Nat} {xs : Nat → Int32} {d x : Nat} {M : qxM} {st : List Value} {a0 a1 a2 a3 a4 a6 a7 a8 : Option Value} {z : Int32} : Rs L xs (d) 394 404 [a0, a1, a2, a3, a4, some (.int z), a6, a7, a8] st M x = Rs L xs (d) 394 406 [a0, a1, a2, a3, a4, some (.int z), a6, a7, a8] (.int z :: st) M x := Rs_next c394_404 rfl
theorem c394_406 : qx_code 394 406 = some (406, .iconst 1, 407, 0, 0, 0) := by decide +kernel
theorem s394_406 {L : Nat} {xs : Nat → Int32} {d x : Nat} {M : qxM} {st : List Value} {ls : qxL} : Rs L xs (d) 394 406 ls st M x = Rs L xs (d) 394 407 ls (.int (nI 1) :: st) M x := Rs_next c394_406 rfl
theorem c394_407 : qx_code 394 407 = some (407, .iadd, 408, 0, 0, 0) := by decide +kernel
theorem s394_407 {L : Nat} {xs : Nat → Int32} {d x : Nat} {M : qxM} {st : List Value} {ls : qxL} {z y : Int32} : Rs L xs (d) 394 407 ls (.int y :: .int z :: st) M x = Rs L xs (d) 394 408 ls (.int (z + y) :: st) M x := Rs_next c394_407 rfl
theorem c394_408 : qx_code 394 408 = some (408, .iaload, 409, 0, 0, 0) := by decide +kernel
theorem s394_408s {L : Nat} {xs : Nat → Int32} {d x : Nat} {M : qxM} {st : List Value} {ls : qxL} {j : Int32} (hj : qx_ib j L = true) : Rs L xs (d) 394 408 ls (.int j :: .ref 1 :: st) M x = Rs L xs (d) 394 409 ls (.int (xs j.toNatClampNeg) :: st) M x := Rs_unless (qx_ib_not hj) c394_408 rfl
theorem c394_409 : qx_code 394 409 = some (409, .invokevirtual 217, 412, 207, 2, 1637) := by decide +kernel
theorem s394_409 {L : Nat} {xs : Nat → Int32} {d x : Nat} {M : qxM} {st : List Value} {ls : qxL} {t : Nat} {z0 : Int32} (hk : qx_kd t = 18) (hs : st.length ≤ 4) : Rs L xs (d + 1) 394 409 ls (.int z0 :: .ref t :: st) M x = (Rs L xs d 207 0 [some (.ref t), some (.int z0), none] [] M 0).bind (qx_kn L xs (d + 1) 394 409 412 207 ls st x) := by
  have h1 : qx_act L xs (qx_rt 394) (409, .invokevirtual 217, 412, 207, 2, 1637) ls (.int z0 :: .ref t :: st) M = if 2 ≤ (.int z0 :: .ref t :: st).length ∧ st.length ≤ 4 then some (.inr (.inr (.inr (207, [.ref t, .int z0], st)))) else none := rfl
  rw [if_pos ⟨by simp [List.length_cons]; try omega, hs⟩] at h1
  have h2 := qx_kd_obj (k := 8) (by decide) hk
  exact Rs_call c394_409 h1 (by rw [show qx_args 207 [.ref t, .int z0] = decide (qx_sh t = some (.inl 8)) from rfl]; exact decide_eq_true h2)
theorem c394_412 : qx_code 394 412 = some (412, .istore 7, 414, 0, 0, 0) := by decide +kernel
theorem s394_412i {L : Nat} {xs : Nat → Int32} {d x : Nat} {M : qxM} {st : List Value} {a0 a1 a2 a3 a4 a5 a7 a8 : Option Value} {z : Int32} {y : Int32} : Rs L xs (d) 394 412 [a0, a1, a2, a3, a4, a5, some (.int y), a7, a8] (.int z :: st) M x = Rs L xs (d) 394 414 [a0, a1, a2, a3, a4, a5, some (.int y), some (.int z), a8] st M x := Rs_next c394_412 rfl
theorem c394_414 : qx_code 394 414 = some (414, .aload_n 2, 415, 0, 0, 0) := by decide +kernel
theorem s394_414 {L : Nat} {xs : Nat → Int32} {d x : Nat} {M : qxM} {st : List Value} {a0 a1 a3 a4 a5 a6 a7 a8 : Option Value} {z : Nat} : Rs L xs (d) 394 414 [a0, a1, some (.ref z), a3, a4, a5, a6, a7, a8] st M x = Rs L xs (d) 394 415 [a0, a1, some (.ref z), a3, a4, a5, a6, a7, a8] (.ref z :: st) M x := Rs_next c394_414 rfl
theorem c394_415 : qx_code 394 415 = some (415, .invokevirtual 218, 418, 177, 1, 1613) := by decide +kernel
theorem s394_415 {L : Nat} {xs : Nat → Int32} {d x : Nat} {M : qxM} {st : List Value} {ls : qxL} {t : Nat} (hk : qx_kd t = 18) (hs : st.length ≤ 4) : Rs L xs (d + 1) 394 415 ls (.ref t :: st) M x = (Rs L xs d 177 0 [some (.ref t)] [] M 0).bind (qx_kn L xs (d + 1) 394 415 418 177 ls st x) := by
  have h1 : qx_act L xs (qx_rt 394) (415, .invokevirtual 218, 418, 177, 1, 1613) ls (.ref t :: st) M = if 1 ≤ (.ref t :: st).length ∧ st.length ≤ 4 then some (.inr (.inr (.inr (177, [.ref t], st)))) else none := rfl
  rw [if_pos ⟨by simp [List.length_cons]; try omega, hs⟩] at h1
  have h2 := qx_kd_obj (k := 8) (by decide) hk
  exact Rs_call c394_415 h1 (by rw [show qx_args 177 [.ref t] = decide (qx_sh t = some (.inl 8)) from rfl]; exact decide_eq_true h2)
theorem c394_418 : qx_code 394 418 = some (418, .iload 6, 420, 0, 0, 0) := by decide +kernel
theorem s394_418 {L : Nat} {xs : Nat → Int32} {d x : Nat} {M : qxM} {st : List Value} {a0 a1 a2 a3 a4 a5 a7 a8 : Option Value} {z : Int32} : Rs L xs (d) 394 418 [a0, a1, a2, a3, a4, a5, some (.int z), a7, a8] st M x = Rs L xs (d) 394 420 [a0, a1, a2, a3, a4, a5, some (.int z), a7, a8] (.int z :: st) M x := Rs_next c394_418 rfl
theorem c394_420 : qx_code 394 420 = some (420, .if_icmp .eq 5, 423, 425, 0, 0) := by decide +kernel
theorem s394_420 {L : Nat} {xs : Nat → Int32} {d x : Nat} {M : qxM} {st : List Value} {ls : qxL} {z y : Int32} : Rs L xs (d) 394 420 ls (.int y :: .int z :: st) M x = if z = y then Rs L xs (d) 394 425 ls st M x else Rs L xs (d) 394 423 ls st M x := Rs_ite c394_420 rfl
theorem c394_425 : qx_code 394 425 = some (425, .iload 6, 427, 0, 0, 0) := by decide +kernel
theorem s394_425 {L : Nat} {xs : Nat → Int32} {d x : Nat} {M : qxM} {st : List Value} {a0 a1 a2 a3 a4 a5 a7 a8 : Option Value} {z : Int32} : Rs L xs (d) 394 425 [a0, a1, a2, a3, a4, a5, some (.int z), a7, a8] st M x = Rs L xs (d) 394 427 [a0, a1, a2, a3, a4, a5, some (.int z), a7, a8] (.int z :: st) M x := Rs_next c394_425 rfl
theorem c394_427 : qx_code 394 427 = some (427, .ifCond .ne 15, 430, 442, 0, 0) := by decide +kernel
theorem s394_427 {L : Nat} {xs : Nat → Int32} {d x : Nat} {M : qxM} {st : List Value} {ls : qxL} {z : Int32} : Rs L xs (d) 394 427 ls (.int z :: st) M x = if z = 0 then Rs L xs (d) 394 430 ls st M x else Rs L xs (d) 394 442 ls st M x := Rs_ite c394_427 rfl
theorem c394_430 : qx_code 394 430 = some (430, .aload_n 3, 431, 0, 0, 0) := by decide +kernel
theorem s394_430 {L : Nat} {xs : Nat → Int32} {d x : Nat} {M : qxM} {st : List Value} {a0 a1 a2 a4 a5 a6 a7 a8 : Option Value} {z : Nat} : Rs L xs (d) 394 430 [a0, a1, a2, some (.ref z), a4, a5, a6, a7, a8] st M x = Rs L xs (d) 394 431 [a0, a1, a2, some (.ref z), a4, a5, a6, a7, a8] (.ref z :: st) M x := Rs_next c394_430 rfl
theorem c394_431 : qx_code 394 431 = some (431, .iconst 0, 432, 0, 0, 0) := by decide +kernel
theorem s394_431 {L : Nat} {xs : Nat → Int32} {d x : Nat} {M : qxM} {st : List Value} {ls : qxL} : Rs L xs (d) 394 431 ls st M x = Rs L xs (d) 394 432 ls (.int (nI 0) :: st) M x := Rs_next c394_431 rfl
theorem c394_432 : qx_code 394 432 = some (432, .laload, 433, 0, 0, 0) := by decide +kernel
theorem s394_432 {L : Nat} {xs : Nat → Int32} {d x : Nat} {M : qxM} {st : List Value} {ls : qxL} {t : Nat} {j : Int32} (hk : qx_kd t = 4) (hj : qx_ib j (qx_ln t) = true) : Rs L xs (d) 394 432 ls (.int j :: .ref t :: st) M x = Rs L xs (d) 394 433 ls (.long (M.2.1 j.toNatClampNeg) :: st) M x := by
  have h1 := qx_kd_row (k := 4) (by decide) hk
  exact Rs_unless (qx_ib_not hj) c394_432 (by unfold qx_act; dsimp only; rw [h1]; rfl)
theorem c394_433 : qx_code 394 433 = some (433, .iload 7, 435, 0, 0, 0) := by decide +kernel
theorem s394_433 {L : Nat} {xs : Nat → Int32} {d x : Nat} {M : qxM} {st : List Value} {a0 a1 a2 a3 a4 a5 a6 a8 : Option Value} {z : Int32} : Rs L xs (d) 394 433 [a0, a1, a2, a3, a4, a5, a6, some (.int z), a8] st M x = Rs L xs (d) 394 435 [a0, a1, a2, a3, a4, a5, a6, some (.int z), a8] (.int z :: st) M x := Rs_next c394_433 rfl
theorem c394_435 : qx_code 394 435 = some (435, .i2l, 436, 0, 0, 0) := by decide +kernel
theorem s394_435 {L : Nat} {xs : Nat → Int32} {d x : Nat} {M : qxM} {st : List Value} {ls : qxL} {z : Int32} : Rs L xs (d) 394 435 ls (.int z :: st) M x = Rs L xs (d) 394 436 ls (.long z.toInt64 :: st) M x := Rs_next c394_435 rfl
theorem c394_436 : qx_code 394 436 = some (436, .lcmp, 437, 0, 0, 0) := by decide +kernel
theorem s394_436 {L : Nat} {xs : Nat → Int32} {d x : Nat} {M : qxM} {st : List Value} {ls : qxL} {z y : Int64} : Rs L xs (d) 394 436 ls (.long y :: .long z :: st) M x = Rs L xs (d) 394 437 ls (.int (lg_cmp z y) :: st) M x := Rs_next c394_436 rfl
theorem c394_437 : qx_code 394 437 = some (437, .ifCond .eq 5, 440, 442, 0, 0) := by decide +kernel
theorem s394_437 {L : Nat} {xs : Nat → Int32} {d x : Nat} {M : qxM} {st : List Value} {ls : qxL} {z : Int32} : Rs L xs (d) 394 437 ls (.int z :: st) M x = if z = 0 then Rs L xs (d) 394 442 ls st M x else Rs L xs (d) 394 440 ls st M x := Rs_ite c394_437 rfl
theorem c394_442 : qx_code 394 442 = some (442, .goto 3304, 445, 3746, 0, 0) := by decide +kernel
theorem s394_442 {L : Nat} {xs : Nat → Int32} {d x : Nat} {M : qxM} {st : List Value} {ls : qxL} : Rs L xs (d) 394 442 ls st M x = Rs L xs (d) 394 3746 ls st M x := Rs_next c394_442 rfl
theorem c394_445 : qx_code 394 445 = some (445, .aload_n 1, 446, 0, 0, 0) := by decide +kernel
theorem s394_445 {L : Nat} {xs : Nat → Int32} {d x : Nat} {M : qxM} {st : List Value} {a0 a2 a3 a4 a5 a6 a7 a8 : Option Value} {z : Nat} : Rs L xs (d) 394 445 [a0, some (.ref z), a2, a3, a4, a5, a6, a7, a8] st M x = Rs L xs (d) 394 446 [a0, some (.ref z), a2, a3, a4, a5, a6, a7, a8] (.ref z :: st) M x := Rs_next c394_445 rfl
theorem c394_446 : qx_code 394 446 = some (446, .invokevirtual 221, 449, 94, 1, 427) := by decide +kernel
theorem s394_446 {L : Nat} {xs : Nat → Int32} {d x : Nat} {M : qxM} {st : List Value} {ls : qxL} {t : Nat} (hk : qx_kd t = 17) (hs : st.length ≤ 4) : Rs L xs (d + 1) 394 446 ls (.ref t :: st) M x = (Rs L xs d 94 0 [some (.ref t)] [] M 0).bind (qx_kn L xs (d + 1) 394 446 449 94 ls st x) := by
  have h1 : qx_act L xs (qx_rt 394) (446, .invokevirtual 221, 449, 94, 1, 427) ls (.ref t :: st) M = if 1 ≤ (.ref t :: st).length ∧ st.length ≤ 4 then some (.inr (.inr (.inr (94, [.ref t], st)))) else none := rfl
  rw [if_pos ⟨by simp [List.length_cons]; try omega, hs⟩] at h1
  have h2 := qx_kd_obj (k := 7) (by decide) hk
  exact Rs_call c394_446 h1 (by rw [show qx_args 94 [.ref t] = decide (qx_sh t = some (.inl 7)) from rfl]; exact decide_eq_true h2)
theorem c394_449 : qx_code 394 449 = some (449, .aload_n 2, 450, 0, 0, 0) := by decide +kernel
theorem s394_449 {L : Nat} {xs : Nat → Int32} {d x : Nat} {M : qxM} {st : List Value} {a0 a1 a3 a4 a5 a6 a7 a8 : Option Value} {z : Nat} : Rs L xs (d) 394 449 [a0, a1, some (.ref z), a3, a4, a5, a6, a7, a8] st M x = Rs L xs (d) 394 450 [a0, a1, some (.ref z), a3, a4, a5, a6, a7, a8] (.ref z :: st) M x := Rs_next c394_449 rfl
theorem c394_450 : qx_code 394 450 = some (450, .invokevirtual 224, 453, 187, 1, 1625) := by decide +kernel
theorem s394_450 {L : Nat} {xs : Nat → Int32} {d x : Nat} {M : qxM} {st : List Value} {ls : qxL} {t : Nat} (hk : qx_kd t = 18) (hs : st.length ≤ 4) : Rs L xs (d + 1) 394 450 ls (.ref t :: st) M x = (Rs L xs d 187 0 [some (.ref t)] [] M 0).bind (qx_kn L xs (d + 1) 394 450 453 187 ls st x) := by
  have h1 : qx_act L xs (qx_rt 394) (450, .invokevirtual 224, 453, 187, 1, 1625) ls (.ref t :: st) M = if 1 ≤ (.ref t :: st).length ∧ st.length ≤ 4 then some (.inr (.inr (.inr (187, [.ref t], st)))) else none := rfl
  rw [if_pos ⟨by simp [List.length_cons]; try omega, hs⟩] at h1
  have h2 := qx_kd_obj (k := 8) (by decide) hk
  exact Rs_call c394_450 h1 (by rw [show qx_args 187 [.ref t] = decide (qx_sh t = some (.inl 8)) from rfl]; exact decide_eq_true h2)
theorem c394_453 : qx_code 394 453 = some (453, .if_icmp .eq 3293, 456, 3746, 0, 0) := by decide +kernel
theorem s394_453 {L : Nat} {xs : Nat → Int32} {d x : Nat} {M : qxM} {st : List Value} {ls : qxL} {z y : Int32} : Rs L xs (d) 394 453 ls (.int y :: .int z :: st) M x = if z = y then Rs L xs (d) 394 3746 ls st M x else Rs L xs (d) 394 456 ls st M x := Rs_ite c394_453 rfl
theorem c394_458 : qx_code 394 458 = some (458, .aload_n 1, 459, 0, 0, 0) := by decide +kernel
theorem s394_458 {L : Nat} {xs : Nat → Int32} {d x : Nat} {M : qxM} {st : List Value} {a0 a2 a3 a4 a5 a6 a7 a8 : Option Value} {z : Nat} : Rs L xs (d) 394 458 [a0, some (.ref z), a2, a3, a4, a5, a6, a7, a8] st M x = Rs L xs (d) 394 459 [a0, some (.ref z), a2, a3, a4, a5, a6, a7, a8] (.ref z :: st) M x := Rs_next c394_458 rfl
theorem c394_459 : qx_code 394 459 = some (459, .invokevirtual 225, 462, 95, 1, 431) := by decide +kernel
theorem s394_459 {L : Nat} {xs : Nat → Int32} {d x : Nat} {M : qxM} {st : List Value} {ls : qxL} {t : Nat} (hk : qx_kd t = 17) (hs : st.length ≤ 4) : Rs L xs (d + 1) 394 459 ls (.ref t :: st) M x = (Rs L xs d 95 0 [some (.ref t)] [] M 0).bind (qx_kn L xs (d + 1) 394 459 462 95 ls st x) := by
  have h1 : qx_act L xs (qx_rt 394) (459, .invokevirtual 225, 462, 95, 1, 431) ls (.ref t :: st) M = if 1 ≤ (.ref t :: st).length ∧ st.length ≤ 4 then some (.inr (.inr (.inr (95, [.ref t], st)))) else none := rfl
  rw [if_pos ⟨by simp [List.length_cons]; try omega, hs⟩] at h1
  have h2 := qx_kd_obj (k := 7) (by decide) hk
  exact Rs_call c394_459 h1 (by rw [show qx_args 95 [.ref t] = decide (qx_sh t = some (.inl 7)) from rfl]; exact decide_eq_true h2)
theorem c394_462 : qx_code 394 462 = some (462, .aload_n 2, 463, 0, 0, 0) := by decide +kernel
theorem s394_462 {L : Nat} {xs : Nat → Int32} {d x : Nat} {M : qxM} {st : List Value} {a0 a1 a3 a4 a5 a6 a7 a8 : Option Value} {z : Nat} : Rs L xs (d) 394 462 [a0, a1, some (.ref z), a3, a4, a5, a6, a7, a8] st M x = Rs L xs (d) 394 463 [a0, a1, some (.ref z), a3, a4, a5, a6, a7, a8] (.ref z :: st) M x := Rs_next c394_462 rfl
theorem c394_463 : qx_code 394 463 = some (463, .invokevirtual 228, 466, 188, 1, 1629) := by decide +kernel
theorem s394_463 {L : Nat} {xs : Nat → Int32} {d x : Nat} {M : qxM} {st : List Value} {ls : qxL} {t : Nat} (hk : qx_kd t = 18) (hs : st.length ≤ 4) : Rs L xs (d + 1) 394 463 ls (.ref t :: st) M x = (Rs L xs d 188 0 [some (.ref t)] [] M 0).bind (qx_kn L xs (d + 1) 394 463 466 188 ls st x) := by
  have h1 : qx_act L xs (qx_rt 394) (463, .invokevirtual 228, 466, 188, 1, 1629) ls (.ref t :: st) M = if 1 ≤ (.ref t :: st).length ∧ st.length ≤ 4 then some (.inr (.inr (.inr (188, [.ref t], st)))) else none := rfl
  rw [if_pos ⟨by simp [List.length_cons]; try omega, hs⟩] at h1
  have h2 := qx_kd_obj (k := 8) (by decide) hk
  exact Rs_call c394_463 h1 (by rw [show qx_args 188 [.ref t] = decide (qx_sh t = some (.inl 8)) from rfl]; exact decide_eq_true h2)
theorem c394_466 : qx_code 394 466 = some (466, .if_icmp .eq 3280, 469, 3746, 0, 0) := by decide +kernel
theorem s394_466 {L : Nat} {xs : Nat → Int32} {d x : Nat} {M : qxM} {st : List Value} {ls : qxL} {z y : Int32} : Rs L xs (d) 394 466 ls (.int y :: .int z :: st) M x = if z = y then Rs L xs (d) 394 3746 ls st M x else Rs L xs (d) 394 469 ls st M x := Rs_ite c394_466 rfl
theorem c394_471 : qx_code 394 471 = some (471, .aload_n 1, 472, 0, 0, 0) := by decide +kernel
theorem s394_471 {L : Nat} {xs : Nat → Int32} {d x : Nat} {M : qxM} {st : List Value} {a0 a2 a3 a4 a5 a6 a7 a8 : Option Value} {z : Nat} : Rs L xs (d) 394 471 [a0, some (.ref z), a2, a3, a4, a5, a6, a7, a8] st M x = Rs L xs (d) 394 472 [a0, some (.ref z), a2, a3, a4, a5, a6, a7, a8] (.ref z :: st) M x := Rs_next c394_471 rfl
theorem c394_472 : qx_code 394 472 = some (472, .invokevirtual 229, 475, 96, 1, 435) := by decide +kernel
theorem s394_472 {L : Nat} {xs : Nat → Int32} {d x : Nat} {M : qxM} {st : List Value} {ls : qxL} {t : Nat} (hk : qx_kd t = 17) (hs : st.length ≤ 4) : Rs L xs (d + 1) 394 472 ls (.ref t :: st) M x = (Rs L xs d 96 0 [some (.ref t)] [] M 0).bind (qx_kn L xs (d + 1) 394 472 475 96 ls st x) := by
  have h1 : qx_act L xs (qx_rt 394) (472, .invokevirtual 229, 475, 96, 1, 435) ls (.ref t :: st) M = if 1 ≤ (.ref t :: st).length ∧ st.length ≤ 4 then some (.inr (.inr (.inr (96, [.ref t], st)))) else none := rfl
  rw [if_pos ⟨by simp [List.length_cons]; try omega, hs⟩] at h1
  have h2 := qx_kd_obj (k := 7) (by decide) hk
  exact Rs_call c394_472 h1 (by rw [show qx_args 96 [.ref t] = decide (qx_sh t = some (.inl 7)) from rfl]; exact decide_eq_true h2)
theorem c394_475 : qx_code 394 475 = some (475, .aload_n 2, 476, 0, 0, 0) := by decide +kernel
theorem s394_475 {L : Nat} {xs : Nat → Int32} {d x : Nat} {M : qxM} {st : List Value} {a0 a1 a3 a4 a5 a6 a7 a8 : Option Value} {z : Nat} : Rs L xs (d) 394 475 [a0, a1, some (.ref z), a3, a4, a5, a6, a7, a8] st M x = Rs L xs (d) 394 476 [a0, a1, some (.ref z), a3, a4, a5, a6, a7, a8] (.ref z :: st) M x := Rs_next c394_475 rfl
theorem c394_476 : qx_code 394 476 = some (476, .invokevirtual 232, 479, 189, 1, 1633) := by decide +kernel
theorem s394_476 {L : Nat} {xs : Nat → Int32} {d x : Nat} {M : qxM} {st : List Value} {ls : qxL} {t : Nat} (hk : qx_kd t = 18) (hs : st.length ≤ 4) : Rs L xs (d + 1) 394 476 ls (.ref t :: st) M x = (Rs L xs d 189 0 [some (.ref t)] [] M 0).bind (qx_kn L xs (d + 1) 394 476 479 189 ls st x) := by
  have h1 : qx_act L xs (qx_rt 394) (476, .invokevirtual 232, 479, 189, 1, 1633) ls (.ref t :: st) M = if 1 ≤ (.ref t :: st).length ∧ st.length ≤ 4 then some (.inr (.inr (.inr (189, [.ref t], st)))) else none := rfl
  rw [if_pos ⟨by simp [List.length_cons]; try omega, hs⟩] at h1
  have h2 := qx_kd_obj (k := 8) (by decide) hk
  exact Rs_call c394_476 h1 (by rw [show qx_args 189 [.ref t] = decide (qx_sh t = some (.inl 8)) from rfl]; exact decide_eq_true h2)
theorem c394_479 : qx_code 394 479 = some (479, .if_icmp .eq 3267, 482, 3746, 0, 0) := by decide +kernel
theorem s394_479 {L : Nat} {xs : Nat → Int32} {d x : Nat} {M : qxM} {st : List Value} {ls : qxL} {z y : Int32} : Rs L xs (d) 394 479 ls (.int y :: .int z :: st) M x = if z = y then Rs L xs (d) 394 3746 ls st M x else Rs L xs (d) 394 482 ls st M x := Rs_ite c394_479 rfl
theorem c394_484 : qx_code 394 484 = some (484, .aload_n 1, 485, 0, 0, 0) := by decide +kernel
theorem s394_484 {L : Nat} {xs : Nat → Int32} {d x : Nat} {M : qxM} {st : List Value} {a0 a2 a3 a4 a5 a6 a7 a8 : Option Value} {z : Nat} : Rs L xs (d) 394 484 [a0, some (.ref z), a2, a3, a4, a5, a6, a7, a8] st M x = Rs L xs (d) 394 485 [a0, some (.ref z), a2, a3, a4, a5, a6, a7, a8] (.ref z :: st) M x := Rs_next c394_484 rfl
theorem c394_485 : qx_code 394 485 = some (485, .aload_n 0, 486, 0, 0, 0) := by decide +kernel
theorem s394_485 {L : Nat} {xs : Nat → Int32} {d x : Nat} {M : qxM} {st : List Value} {a1 a2 a3 a4 a5 a6 a7 a8 : Option Value} {z : Nat} : Rs L xs (d) 394 485 [some (.ref z), a1, a2, a3, a4, a5, a6, a7, a8] st M x = Rs L xs (d) 394 486 [some (.ref z), a1, a2, a3, a4, a5, a6, a7, a8] (.ref z :: st) M x := Rs_next c394_485 rfl
theorem c394_486 : qx_code 394 486 = some (486, .iload 5, 488, 0, 0, 0) := by decide +kernel
theorem s394_486 {L : Nat} {xs : Nat → Int32} {d x : Nat} {M : qxM} {st : List Value} {a0 a1 a2 a3 a4 a6 a7 a8 : Option Value} {z : Int32} : Rs L xs (d) 394 486 [a0, a1, a2, a3, a4, some (.int z), a6, a7, a8] st M x = Rs L xs (d) 394 488 [a0, a1, a2, a3, a4, some (.int z), a6, a7, a8] (.int z :: st) M x := Rs_next c394_486 rfl
theorem c394_488 : qx_code 394 488 = some (488, .iconst 1, 489, 0, 0, 0) := by decide +kernel
theorem s394_488 {L : Nat} {xs : Nat → Int32} {d x : Nat} {M : qxM} {st : List Value} {ls : qxL} : Rs L xs (d) 394 488 ls st M x = Rs L xs (d) 394 489 ls (.int (nI 1) :: st) M x := Rs_next c394_488 rfl
theorem c394_489 : qx_code 394 489 = some (489, .iadd, 490, 0, 0, 0) := by decide +kernel
theorem s394_489 {L : Nat} {xs : Nat → Int32} {d x : Nat} {M : qxM} {st : List Value} {ls : qxL} {z y : Int32} : Rs L xs (d) 394 489 ls (.int y :: .int z :: st) M x = Rs L xs (d) 394 490 ls (.int (z + y) :: st) M x := Rs_next c394_489 rfl
theorem c394_490 : qx_code 394 490 = some (490, .iaload, 491, 0, 0, 0) := by decide +kernel
theorem s394_490s {L : Nat} {xs : Nat → Int32} {d x : Nat} {M : qxM} {st : List Value} {ls : qxL} {j : Int32} (hj : qx_ib j L = true) : Rs L xs (d) 394 490 ls (.int j :: .ref 1 :: st) M x = Rs L xs (d) 394 491 ls (.int (xs j.toNatClampNeg) :: st) M x := Rs_unless (qx_ib_not hj) c394_490 rfl
theorem c394_491 : qx_code 394 491 = some (491, .aload_n 3, 492, 0, 0, 0) := by decide +kernel
theorem s394_491 {L : Nat} {xs : Nat → Int32} {d x : Nat} {M : qxM} {st : List Value} {a0 a1 a2 a4 a5 a6 a7 a8 : Option Value} {z : Nat} : Rs L xs (d) 394 491 [a0, a1, a2, some (.ref z), a4, a5, a6, a7, a8] st M x = Rs L xs (d) 394 492 [a0, a1, a2, some (.ref z), a4, a5, a6, a7, a8] (.ref z :: st) M x := Rs_next c394_491 rfl
theorem c394_492 : qx_code 394 492 = some (492, .invokestatic 233, 495, 336, 3, 720) := by decide +kernel
theorem s394_492 {L : Nat} {xs : Nat → Int32} {d x : Nat} {M : qxM} {st : List Value} {ls : qxL} {z0 : Nat} {z1 : Int32} {z2 : Nat} (hs : st.length ≤ 4) : Rs L xs (d + 1) 394 492 ls (.ref z2 :: .int z1 :: .ref z0 :: st) M x = (Rs L xs d 336 0 [some (.ref z0), some (.int z1), some (.ref z2), none] [] M 0).bind (qx_kn L xs (d + 1) 394 492 495 336 ls st x) := by
  have h1 : qx_act L xs (qx_rt 394) (492, .invokestatic 233, 495, 336, 3, 720) ls (.ref z2 :: .int z1 :: .ref z0 :: st) M = if 3 ≤ (.ref z2 :: .int z1 :: .ref z0 :: st).length ∧ st.length ≤ 4 then some (.inr (.inr (.inr (336, [.ref z0, .int z1, .ref z2], st)))) else none := rfl
  rw [if_pos ⟨by simp [List.length_cons]; try omega, hs⟩] at h1
  exact Rs_call c394_492 h1 rfl
theorem c394_495 : qx_code 394 495 = some (495, .istore 6, 497, 0, 0, 0) := by decide +kernel
theorem s394_495i {L : Nat} {xs : Nat → Int32} {d x : Nat} {M : qxM} {st : List Value} {a0 a1 a2 a3 a4 a6 a7 a8 : Option Value} {z : Int32} {y : Int32} : Rs L xs (d) 394 495 [a0, a1, a2, a3, a4, some (.int y), a6, a7, a8] (.int z :: st) M x = Rs L xs (d) 394 497 [a0, a1, a2, a3, a4, some (.int y), some (.int z), a7, a8] st M x := Rs_next c394_495 rfl
theorem c394_497 : qx_code 394 497 = some (497, .aload_n 2, 498, 0, 0, 0) := by decide +kernel
theorem s394_497 {L : Nat} {xs : Nat → Int32} {d x : Nat} {M : qxM} {st : List Value} {a0 a1 a3 a4 a5 a6 a7 a8 : Option Value} {z : Nat} : Rs L xs (d) 394 497 [a0, a1, some (.ref z), a3, a4, a5, a6, a7, a8] st M x = Rs L xs (d) 394 498 [a0, a1, some (.ref z), a3, a4, a5, a6, a7, a8] (.ref z :: st) M x := Rs_next c394_497 rfl
theorem c394_498 : qx_code 394 498 = some (498, .aload_n 0, 499, 0, 0, 0) := by decide +kernel
theorem s394_498 {L : Nat} {xs : Nat → Int32} {d x : Nat} {M : qxM} {st : List Value} {a1 a2 a3 a4 a5 a6 a7 a8 : Option Value} {z : Nat} : Rs L xs (d) 394 498 [some (.ref z), a1, a2, a3, a4, a5, a6, a7, a8] st M x = Rs L xs (d) 394 499 [some (.ref z), a1, a2, a3, a4, a5, a6, a7, a8] (.ref z :: st) M x := Rs_next c394_498 rfl
theorem c394_499 : qx_code 394 499 = some (499, .iload 5, 501, 0, 0, 0) := by decide +kernel
theorem s394_499 {L : Nat} {xs : Nat → Int32} {d x : Nat} {M : qxM} {st : List Value} {a0 a1 a2 a3 a4 a6 a7 a8 : Option Value} {z : Int32} : Rs L xs (d) 394 499 [a0, a1, a2, a3, a4, some (.int z), a6, a7, a8] st M x = Rs L xs (d) 394 501 [a0, a1, a2, a3, a4, some (.int z), a6, a7, a8] (.int z :: st) M x := Rs_next c394_499 rfl
theorem c394_501 : qx_code 394 501 = some (501, .iconst 1, 502, 0, 0, 0) := by decide +kernel
theorem s394_501 {L : Nat} {xs : Nat → Int32} {d x : Nat} {M : qxM} {st : List Value} {ls : qxL} : Rs L xs (d) 394 501 ls st M x = Rs L xs (d) 394 502 ls (.int (nI 1) :: st) M x := Rs_next c394_501 rfl
theorem c394_502 : qx_code 394 502 = some (502, .iadd, 503, 0, 0, 0) := by decide +kernel
theorem s394_502 {L : Nat} {xs : Nat → Int32} {d x : Nat} {M : qxM} {st : List Value} {ls : qxL} {z y : Int32} : Rs L xs (d) 394 502 ls (.int y :: .int z :: st) M x = Rs L xs (d) 394 503 ls (.int (z + y) :: st) M x := Rs_next c394_502 rfl
theorem c394_503 : qx_code 394 503 = some (503, .iaload, 504, 0, 0, 0) := by decide +kernel
theorem s394_503s {L : Nat} {xs : Nat → Int32} {d x : Nat} {M : qxM} {st : List Value} {ls : qxL} {j : Int32} (hj : qx_ib j L = true) : Rs L xs (d) 394 503 ls (.int j :: .ref 1 :: st) M x = Rs L xs (d) 394 504 ls (.int (xs j.toNatClampNeg) :: st) M x := Rs_unless (qx_ib_not hj) c394_503 rfl
theorem c394_504 : qx_code 394 504 = some (504, .invokevirtual 235, 507, 225, 2, 1769) := by decide +kernel
theorem s394_504 {L : Nat} {xs : Nat → Int32} {d x : Nat} {M : qxM} {st : List Value} {ls : qxL} {t : Nat} {z0 : Int32} (hk : qx_kd t = 18) (hs : st.length ≤ 4) : Rs L xs (d + 1) 394 504 ls (.int z0 :: .ref t :: st) M x = (Rs L xs d 225 0 [some (.ref t), some (.int z0)] [] M 0).bind (qx_kn L xs (d + 1) 394 504 507 225 ls st x) := by
  have h1 : qx_act L xs (qx_rt 394) (504, .invokevirtual 235, 507, 225, 2, 1769) ls (.int z0 :: .ref t :: st) M = if 2 ≤ (.int z0 :: .ref t :: st).length ∧ st.length ≤ 4 then some (.inr (.inr (.inr (225, [.ref t, .int z0], st)))) else none := rfl
  rw [if_pos ⟨by simp [List.length_cons]; try omega, hs⟩] at h1
  have h2 := qx_kd_obj (k := 8) (by decide) hk
  exact Rs_call c394_504 h1 (by rw [show qx_args 225 [.ref t, .int z0] = decide (qx_sh t = some (.inl 8)) from rfl]; exact decide_eq_true h2)
theorem c394_507 : qx_code 394 507 = some (507, .istore 7, 509, 0, 0, 0) := by decide +kernel
theorem s394_507i {L : Nat} {xs : Nat → Int32} {d x : Nat} {M : qxM} {st : List Value} {a0 a1 a2 a3 a4 a5 a7 a8 : Option Value} {z : Int32} {y : Int32} : Rs L xs (d) 394 507 [a0, a1, a2, a3, a4, a5, some (.int y), a7, a8] (.int z :: st) M x = Rs L xs (d) 394 509 [a0, a1, a2, a3, a4, a5, some (.int y), some (.int z), a8] st M x := Rs_next c394_507 rfl
theorem c394_509 : qx_code 394 509 = some (509, .aload_n 2, 510, 0, 0, 0) := by decide +kernel
theorem s394_509 {L : Nat} {xs : Nat → Int32} {d x : Nat} {M : qxM} {st : List Value} {a0 a1 a3 a4 a5 a6 a7 a8 : Option Value} {z : Nat} : Rs L xs (d) 394 509 [a0, a1, some (.ref z), a3, a4, a5, a6, a7, a8] st M x = Rs L xs (d) 394 510 [a0, a1, some (.ref z), a3, a4, a5, a6, a7, a8] (.ref z :: st) M x := Rs_next c394_509 rfl
theorem c394_510 : qx_code 394 510 = some (510, .invokevirtual 218, 513, 177, 1, 1613) := by decide +kernel
theorem s394_510 {L : Nat} {xs : Nat → Int32} {d x : Nat} {M : qxM} {st : List Value} {ls : qxL} {t : Nat} (hk : qx_kd t = 18) (hs : st.length ≤ 4) : Rs L xs (d + 1) 394 510 ls (.ref t :: st) M x = (Rs L xs d 177 0 [some (.ref t)] [] M 0).bind (qx_kn L xs (d + 1) 394 510 513 177 ls st x) := by
  have h1 : qx_act L xs (qx_rt 394) (510, .invokevirtual 218, 513, 177, 1, 1613) ls (.ref t :: st) M = if 1 ≤ (.ref t :: st).length ∧ st.length ≤ 4 then some (.inr (.inr (.inr (177, [.ref t], st)))) else none := rfl
  rw [if_pos ⟨by simp [List.length_cons]; try omega, hs⟩] at h1
  have h2 := qx_kd_obj (k := 8) (by decide) hk
  exact Rs_call c394_510 h1 (by rw [show qx_args 177 [.ref t] = decide (qx_sh t = some (.inl 8)) from rfl]; exact decide_eq_true h2)
theorem c394_513 : qx_code 394 513 = some (513, .iload 6, 515, 0, 0, 0) := by decide +kernel
theorem s394_513 {L : Nat} {xs : Nat → Int32} {d x : Nat} {M : qxM} {st : List Value} {a0 a1 a2 a3 a4 a5 a7 a8 : Option Value} {z : Int32} : Rs L xs (d) 394 513 [a0, a1, a2, a3, a4, a5, some (.int z), a7, a8] st M x = Rs L xs (d) 394 515 [a0, a1, a2, a3, a4, a5, some (.int z), a7, a8] (.int z :: st) M x := Rs_next c394_513 rfl
theorem c394_515 : qx_code 394 515 = some (515, .if_icmp .eq 5, 518, 520, 0, 0) := by decide +kernel
theorem s394_515 {L : Nat} {xs : Nat → Int32} {d x : Nat} {M : qxM} {st : List Value} {ls : qxL} {z y : Int32} : Rs L xs (d) 394 515 ls (.int y :: .int z :: st) M x = if z = y then Rs L xs (d) 394 520 ls st M x else Rs L xs (d) 394 518 ls st M x := Rs_ite c394_515 rfl
theorem c394_520 : qx_code 394 520 = some (520, .iload 6, 522, 0, 0, 0) := by decide +kernel
theorem s394_520 {L : Nat} {xs : Nat → Int32} {d x : Nat} {M : qxM} {st : List Value} {a0 a1 a2 a3 a4 a5 a7 a8 : Option Value} {z : Int32} : Rs L xs (d) 394 520 [a0, a1, a2, a3, a4, a5, some (.int z), a7, a8] st M x = Rs L xs (d) 394 522 [a0, a1, a2, a3, a4, a5, some (.int z), a7, a8] (.int z :: st) M x := Rs_next c394_520 rfl
theorem c394_522 : qx_code 394 522 = some (522, .ifCond .ne 15, 525, 537, 0, 0) := by decide +kernel
theorem s394_522 {L : Nat} {xs : Nat → Int32} {d x : Nat} {M : qxM} {st : List Value} {ls : qxL} {z : Int32} : Rs L xs (d) 394 522 ls (.int z :: st) M x = if z = 0 then Rs L xs (d) 394 525 ls st M x else Rs L xs (d) 394 537 ls st M x := Rs_ite c394_522 rfl
theorem c394_525 : qx_code 394 525 = some (525, .aload_n 3, 526, 0, 0, 0) := by decide +kernel
theorem s394_525 {L : Nat} {xs : Nat → Int32} {d x : Nat} {M : qxM} {st : List Value} {a0 a1 a2 a4 a5 a6 a7 a8 : Option Value} {z : Nat} : Rs L xs (d) 394 525 [a0, a1, a2, some (.ref z), a4, a5, a6, a7, a8] st M x = Rs L xs (d) 394 526 [a0, a1, a2, some (.ref z), a4, a5, a6, a7, a8] (.ref z :: st) M x := Rs_next c394_525 rfl
theorem c394_526 : qx_code 394 526 = some (526, .iconst 0, 527, 0, 0, 0) := by decide +kernel
theorem s394_526 {L : Nat} {xs : Nat → Int32} {d x : Nat} {M : qxM} {st : List Value} {ls : qxL} : Rs L xs (d) 394 526 ls st M x = Rs L xs (d) 394 527 ls (.int (nI 0) :: st) M x := Rs_next c394_526 rfl
theorem c394_527 : qx_code 394 527 = some (527, .laload, 528, 0, 0, 0) := by decide +kernel
theorem s394_527 {L : Nat} {xs : Nat → Int32} {d x : Nat} {M : qxM} {st : List Value} {ls : qxL} {t : Nat} {j : Int32} (hk : qx_kd t = 4) (hj : qx_ib j (qx_ln t) = true) : Rs L xs (d) 394 527 ls (.int j :: .ref t :: st) M x = Rs L xs (d) 394 528 ls (.long (M.2.1 j.toNatClampNeg) :: st) M x := by
  have h1 := qx_kd_row (k := 4) (by decide) hk
  exact Rs_unless (qx_ib_not hj) c394_527 (by unfold qx_act; dsimp only; rw [h1]; rfl)
theorem c394_528 : qx_code 394 528 = some (528, .iload 7, 530, 0, 0, 0) := by decide +kernel
theorem s394_528 {L : Nat} {xs : Nat → Int32} {d x : Nat} {M : qxM} {st : List Value} {a0 a1 a2 a3 a4 a5 a6 a8 : Option Value} {z : Int32} : Rs L xs (d) 394 528 [a0, a1, a2, a3, a4, a5, a6, some (.int z), a8] st M x = Rs L xs (d) 394 530 [a0, a1, a2, a3, a4, a5, a6, some (.int z), a8] (.int z :: st) M x := Rs_next c394_528 rfl
theorem c394_530 : qx_code 394 530 = some (530, .i2l, 531, 0, 0, 0) := by decide +kernel
theorem s394_530 {L : Nat} {xs : Nat → Int32} {d x : Nat} {M : qxM} {st : List Value} {ls : qxL} {z : Int32} : Rs L xs (d) 394 530 ls (.int z :: st) M x = Rs L xs (d) 394 531 ls (.long z.toInt64 :: st) M x := Rs_next c394_530 rfl
theorem c394_531 : qx_code 394 531 = some (531, .lcmp, 532, 0, 0, 0) := by decide +kernel
theorem s394_531 {L : Nat} {xs : Nat → Int32} {d x : Nat} {M : qxM} {st : List Value} {ls : qxL} {z y : Int64} : Rs L xs (d) 394 531 ls (.long y :: .long z :: st) M x = Rs L xs (d) 394 532 ls (.int (lg_cmp z y) :: st) M x := Rs_next c394_531 rfl
theorem c394_532 : qx_code 394 532 = some (532, .ifCond .eq 5, 535, 537, 0, 0) := by decide +kernel
theorem s394_532 {L : Nat} {xs : Nat → Int32} {d x : Nat} {M : qxM} {st : List Value} {ls : qxL} {z : Int32} : Rs L xs (d) 394 532 ls (.int z :: st) M x = if z = 0 then Rs L xs (d) 394 537 ls st M x else Rs L xs (d) 394 535 ls st M x := Rs_ite c394_532 rfl
theorem c394_537 : qx_code 394 537 = some (537, .goto 3209, 540, 3746, 0, 0) := by decide +kernel
theorem s394_537 {L : Nat} {xs : Nat → Int32} {d x : Nat} {M : qxM} {st : List Value} {ls : qxL} : Rs L xs (d) 394 537 ls st M x = Rs L xs (d) 394 3746 ls st M x := Rs_next c394_537 rfl
theorem c394_540 : qx_code 394 540 = some (540, .aload_n 1, 541, 0, 0, 0) := by decide +kernel
theorem s394_540 {L : Nat} {xs : Nat → Int32} {d x : Nat} {M : qxM} {st : List Value} {a0 a2 a3 a4 a5 a6 a7 a8 : Option Value} {z : Nat} : Rs L xs (d) 394 540 [a0, some (.ref z), a2, a3, a4, a5, a6, a7, a8] st M x = Rs L xs (d) 394 541 [a0, some (.ref z), a2, a3, a4, a5, a6, a7, a8] (.ref z :: st) M x := Rs_next c394_540 rfl
theorem c394_541 : qx_code 394 541 = some (541, .aload_n 0, 542, 0, 0, 0) := by decide +kernel
theorem s394_541 {L : Nat} {xs : Nat → Int32} {d x : Nat} {M : qxM} {st : List Value} {a1 a2 a3 a4 a5 a6 a7 a8 : Option Value} {z : Nat} : Rs L xs (d) 394 541 [some (.ref z), a1, a2, a3, a4, a5, a6, a7, a8] st M x = Rs L xs (d) 394 542 [some (.ref z), a1, a2, a3, a4, a5, a6, a7, a8] (.ref z :: st) M x := Rs_next c394_541 rfl
theorem c394_542 : qx_code 394 542 = some (542, .iload 5, 544, 0, 0, 0) := by decide +kernel
theorem s394_542 {L : Nat} {xs : Nat → Int32} {d x : Nat} {M : qxM} {st : List Value} {a0 a1 a2 a3 a4 a6 a7 a8 : Option Value} {z : Int32} : Rs L xs (d) 394 542 [a0, a1, a2, a3, a4, some (.int z), a6, a7, a8] st M x = Rs L xs (d) 394 544 [a0, a1, a2, a3, a4, some (.int z), a6, a7, a8] (.int z :: st) M x := Rs_next c394_542 rfl
theorem c394_544 : qx_code 394 544 = some (544, .iconst 1, 545, 0, 0, 0) := by decide +kernel
theorem s394_544 {L : Nat} {xs : Nat → Int32} {d x : Nat} {M : qxM} {st : List Value} {ls : qxL} : Rs L xs (d) 394 544 ls st M x = Rs L xs (d) 394 545 ls (.int (nI 1) :: st) M x := Rs_next c394_544 rfl
theorem c394_545 : qx_code 394 545 = some (545, .iadd, 546, 0, 0, 0) := by decide +kernel
theorem s394_545 {L : Nat} {xs : Nat → Int32} {d x : Nat} {M : qxM} {st : List Value} {ls : qxL} {z y : Int32} : Rs L xs (d) 394 545 ls (.int y :: .int z :: st) M x = Rs L xs (d) 394 546 ls (.int (z + y) :: st) M x := Rs_next c394_545 rfl
theorem c394_546 : qx_code 394 546 = some (546, .iaload, 547, 0, 0, 0) := by decide +kernel
theorem s394_546s {L : Nat} {xs : Nat → Int32} {d x : Nat} {M : qxM} {st : List Value} {ls : qxL} {j : Int32} (hj : qx_ib j L = true) : Rs L xs (d) 394 546 ls (.int j :: .ref 1 :: st) M x = Rs L xs (d) 394 547 ls (.int (xs j.toNatClampNeg) :: st) M x := Rs_unless (qx_ib_not hj) c394_546 rfl
theorem c394_547 : qx_code 394 547 = some (547, .aload_n 0, 548, 0, 0, 0) := by decide +kernel
theorem s394_547 {L : Nat} {xs : Nat → Int32} {d x : Nat} {M : qxM} {st : List Value} {a1 a2 a3 a4 a5 a6 a7 a8 : Option Value} {z : Nat} : Rs L xs (d) 394 547 [some (.ref z), a1, a2, a3, a4, a5, a6, a7, a8] st M x = Rs L xs (d) 394 548 [some (.ref z), a1, a2, a3, a4, a5, a6, a7, a8] (.ref z :: st) M x := Rs_next c394_547 rfl
theorem c394_548 : qx_code 394 548 = some (548, .iload 5, 550, 0, 0, 0) := by decide +kernel
theorem s394_548 {L : Nat} {xs : Nat → Int32} {d x : Nat} {M : qxM} {st : List Value} {a0 a1 a2 a3 a4 a6 a7 a8 : Option Value} {z : Int32} : Rs L xs (d) 394 548 [a0, a1, a2, a3, a4, some (.int z), a6, a7, a8] st M x = Rs L xs (d) 394 550 [a0, a1, a2, a3, a4, some (.int z), a6, a7, a8] (.int z :: st) M x := Rs_next c394_548 rfl
theorem c394_550 : qx_code 394 550 = some (550, .iconst 2, 551, 0, 0, 0) := by decide +kernel
theorem s394_550 {L : Nat} {xs : Nat → Int32} {d x : Nat} {M : qxM} {st : List Value} {ls : qxL} : Rs L xs (d) 394 550 ls st M x = Rs L xs (d) 394 551 ls (.int (nI 2) :: st) M x := Rs_next c394_550 rfl
theorem c394_551 : qx_code 394 551 = some (551, .iadd, 552, 0, 0, 0) := by decide +kernel
theorem s394_551 {L : Nat} {xs : Nat → Int32} {d x : Nat} {M : qxM} {st : List Value} {ls : qxL} {z y : Int32} : Rs L xs (d) 394 551 ls (.int y :: .int z :: st) M x = Rs L xs (d) 394 552 ls (.int (z + y) :: st) M x := Rs_next c394_551 rfl
theorem c394_552 : qx_code 394 552 = some (552, .iaload, 553, 0, 0, 0) := by decide +kernel
theorem s394_552s {L : Nat} {xs : Nat → Int32} {d x : Nat} {M : qxM} {st : List Value} {ls : qxL} {j : Int32} (hj : qx_ib j L = true) : Rs L xs (d) 394 552 ls (.int j :: .ref 1 :: st) M x = Rs L xs (d) 394 553 ls (.int (xs j.toNatClampNeg) :: st) M x := Rs_unless (qx_ib_not hj) c394_552 rfl
theorem c394_553 : qx_code 394 553 = some (553, .aload_n 3, 554, 0, 0, 0) := by decide +kernel
theorem s394_553 {L : Nat} {xs : Nat → Int32} {d x : Nat} {M : qxM} {st : List Value} {a0 a1 a2 a4 a5 a6 a7 a8 : Option Value} {z : Nat} : Rs L xs (d) 394 553 [a0, a1, a2, some (.ref z), a4, a5, a6, a7, a8] st M x = Rs L xs (d) 394 554 [a0, a1, a2, some (.ref z), a4, a5, a6, a7, a8] (.ref z :: st) M x := Rs_next c394_553 rfl
theorem c394_554 : qx_code 394 554 = some (554, .invokestatic 236, 557, 337, 4, 773) := by decide +kernel
theorem s394_554 {L : Nat} {xs : Nat → Int32} {d x : Nat} {M : qxM} {st : List Value} {ls : qxL} {z0 : Nat} {z1 : Int32} {z2 : Int32} {z3 : Nat} (hs : st.length ≤ 4) : Rs L xs (d + 1) 394 554 ls (.ref z3 :: .int z2 :: .int z1 :: .ref z0 :: st) M x = (Rs L xs d 337 0 [some (.ref z0), some (.int z1), some (.int z2), some (.ref z3), none] [] M 0).bind (qx_kn L xs (d + 1) 394 554 557 337 ls st x) := by
  have h1 : qx_act L xs (qx_rt 394) (554, .invokestatic 236, 557, 337, 4, 773) ls (.ref z3 :: .int z2 :: .int z1 :: .ref z0 :: st) M = if 4 ≤ (.ref z3 :: .int z2 :: .int z1 :: .ref z0 :: st).length ∧ st.length ≤ 4 then some (.inr (.inr (.inr (337, [.ref z0, .int z1, .int z2, .ref z3], st)))) else none := rfl
  rw [if_pos ⟨by simp [List.length_cons]; try omega, hs⟩] at h1
  exact Rs_call c394_554 h1 rfl
theorem c394_557 : qx_code 394 557 = some (557, .istore 6, 559, 0, 0, 0) := by decide +kernel
theorem s394_557i {L : Nat} {xs : Nat → Int32} {d x : Nat} {M : qxM} {st : List Value} {a0 a1 a2 a3 a4 a6 a7 a8 : Option Value} {z : Int32} {y : Int32} : Rs L xs (d) 394 557 [a0, a1, a2, a3, a4, some (.int y), a6, a7, a8] (.int z :: st) M x = Rs L xs (d) 394 559 [a0, a1, a2, a3, a4, some (.int y), some (.int z), a7, a8] st M x := Rs_next c394_557 rfl
theorem c394_559 : qx_code 394 559 = some (559, .aload_n 2, 560, 0, 0, 0) := by decide +kernel
theorem s394_559 {L : Nat} {xs : Nat → Int32} {d x : Nat} {M : qxM} {st : List Value} {a0 a1 a3 a4 a5 a6 a7 a8 : Option Value} {z : Nat} : Rs L xs (d) 394 559 [a0, a1, some (.ref z), a3, a4, a5, a6, a7, a8] st M x = Rs L xs (d) 394 560 [a0, a1, some (.ref z), a3, a4, a5, a6, a7, a8] (.ref z :: st) M x := Rs_next c394_559 rfl
theorem c394_560 : qx_code 394 560 = some (560, .aload_n 0, 561, 0, 0, 0) := by decide +kernel
theorem s394_560 {L : Nat} {xs : Nat → Int32} {d x : Nat} {M : qxM} {st : List Value} {a1 a2 a3 a4 a5 a6 a7 a8 : Option Value} {z : Nat} : Rs L xs (d) 394 560 [some (.ref z), a1, a2, a3, a4, a5, a6, a7, a8] st M x = Rs L xs (d) 394 561 [some (.ref z), a1, a2, a3, a4, a5, a6, a7, a8] (.ref z :: st) M x := Rs_next c394_560 rfl
theorem c394_561 : qx_code 394 561 = some (561, .iload 5, 563, 0, 0, 0) := by decide +kernel
theorem s394_561 {L : Nat} {xs : Nat → Int32} {d x : Nat} {M : qxM} {st : List Value} {a0 a1 a2 a3 a4 a6 a7 a8 : Option Value} {z : Int32} : Rs L xs (d) 394 561 [a0, a1, a2, a3, a4, some (.int z), a6, a7, a8] st M x = Rs L xs (d) 394 563 [a0, a1, a2, a3, a4, some (.int z), a6, a7, a8] (.int z :: st) M x := Rs_next c394_561 rfl
theorem c394_563 : qx_code 394 563 = some (563, .iconst 1, 564, 0, 0, 0) := by decide +kernel
theorem s394_563 {L : Nat} {xs : Nat → Int32} {d x : Nat} {M : qxM} {st : List Value} {ls : qxL} : Rs L xs (d) 394 563 ls st M x = Rs L xs (d) 394 564 ls (.int (nI 1) :: st) M x := Rs_next c394_563 rfl
theorem c394_564 : qx_code 394 564 = some (564, .iadd, 565, 0, 0, 0) := by decide +kernel
theorem s394_564 {L : Nat} {xs : Nat → Int32} {d x : Nat} {M : qxM} {st : List Value} {ls : qxL} {z y : Int32} : Rs L xs (d) 394 564 ls (.int y :: .int z :: st) M x = Rs L xs (d) 394 565 ls (.int (z + y) :: st) M x := Rs_next c394_564 rfl
theorem c394_565 : qx_code 394 565 = some (565, .iaload, 566, 0, 0, 0) := by decide +kernel
theorem s394_565s {L : Nat} {xs : Nat → Int32} {d x : Nat} {M : qxM} {st : List Value} {ls : qxL} {j : Int32} (hj : qx_ib j L = true) : Rs L xs (d) 394 565 ls (.int j :: .ref 1 :: st) M x = Rs L xs (d) 394 566 ls (.int (xs j.toNatClampNeg) :: st) M x := Rs_unless (qx_ib_not hj) c394_565 rfl
theorem c394_566 : qx_code 394 566 = some (566, .aload_n 0, 567, 0, 0, 0) := by decide +kernel
theorem s394_566 {L : Nat} {xs : Nat → Int32} {d x : Nat} {M : qxM} {st : List Value} {a1 a2 a3 a4 a5 a6 a7 a8 : Option Value} {z : Nat} : Rs L xs (d) 394 566 [some (.ref z), a1, a2, a3, a4, a5, a6, a7, a8] st M x = Rs L xs (d) 394 567 [some (.ref z), a1, a2, a3, a4, a5, a6, a7, a8] (.ref z :: st) M x := Rs_next c394_566 rfl
theorem c394_567 : qx_code 394 567 = some (567, .iload 5, 569, 0, 0, 0) := by decide +kernel
theorem s394_567 {L : Nat} {xs : Nat → Int32} {d x : Nat} {M : qxM} {st : List Value} {a0 a1 a2 a3 a4 a6 a7 a8 : Option Value} {z : Int32} : Rs L xs (d) 394 567 [a0, a1, a2, a3, a4, some (.int z), a6, a7, a8] st M x = Rs L xs (d) 394 569 [a0, a1, a2, a3, a4, some (.int z), a6, a7, a8] (.int z :: st) M x := Rs_next c394_567 rfl
theorem c394_569 : qx_code 394 569 = some (569, .iconst 2, 570, 0, 0, 0) := by decide +kernel
theorem s394_569 {L : Nat} {xs : Nat → Int32} {d x : Nat} {M : qxM} {st : List Value} {ls : qxL} : Rs L xs (d) 394 569 ls st M x = Rs L xs (d) 394 570 ls (.int (nI 2) :: st) M x := Rs_next c394_569 rfl
theorem c394_570 : qx_code 394 570 = some (570, .iadd, 571, 0, 0, 0) := by decide +kernel
theorem s394_570 {L : Nat} {xs : Nat → Int32} {d x : Nat} {M : qxM} {st : List Value} {ls : qxL} {z y : Int32} : Rs L xs (d) 394 570 ls (.int y :: .int z :: st) M x = Rs L xs (d) 394 571 ls (.int (z + y) :: st) M x := Rs_next c394_570 rfl
theorem c394_571 : qx_code 394 571 = some (571, .iaload, 572, 0, 0, 0) := by decide +kernel
theorem s394_571s {L : Nat} {xs : Nat → Int32} {d x : Nat} {M : qxM} {st : List Value} {ls : qxL} {j : Int32} (hj : qx_ib j L = true) : Rs L xs (d) 394 571 ls (.int j :: .ref 1 :: st) M x = Rs L xs (d) 394 572 ls (.int (xs j.toNatClampNeg) :: st) M x := Rs_unless (qx_ib_not hj) c394_571 rfl
theorem c394_572 : qx_code 394 572 = some (572, .invokevirtual 239, 575, 228, 3, 1799) := by decide +kernel
theorem s394_572 {L : Nat} {xs : Nat → Int32} {d x : Nat} {M : qxM} {st : List Value} {ls : qxL} {t : Nat} {z0 : Int32} {z1 : Int32} (hk : qx_kd t = 18) (hs : st.length ≤ 4) : Rs L xs (d + 1) 394 572 ls (.int z1 :: .int z0 :: .ref t :: st) M x = (Rs L xs d 228 0 [some (.ref t), some (.int z0), some (.int z1)] [] M 0).bind (qx_kn L xs (d + 1) 394 572 575 228 ls st x) := by
  have h1 : qx_act L xs (qx_rt 394) (572, .invokevirtual 239, 575, 228, 3, 1799) ls (.int z1 :: .int z0 :: .ref t :: st) M = if 3 ≤ (.int z1 :: .int z0 :: .ref t :: st).length ∧ st.length ≤ 4 then some (.inr (.inr (.inr (228, [.ref t, .int z0, .int z1], st)))) else none := rfl
  rw [if_pos ⟨by simp [List.length_cons]; try omega, hs⟩] at h1
  have h2 := qx_kd_obj (k := 8) (by decide) hk
  exact Rs_call c394_572 h1 (by rw [show qx_args 228 [.ref t, .int z0, .int z1] = decide (qx_sh t = some (.inl 8)) from rfl]; exact decide_eq_true h2)
theorem c394_575 : qx_code 394 575 = some (575, .istore 7, 577, 0, 0, 0) := by decide +kernel
theorem s394_575i {L : Nat} {xs : Nat → Int32} {d x : Nat} {M : qxM} {st : List Value} {a0 a1 a2 a3 a4 a5 a7 a8 : Option Value} {z : Int32} {y : Int32} : Rs L xs (d) 394 575 [a0, a1, a2, a3, a4, a5, some (.int y), a7, a8] (.int z :: st) M x = Rs L xs (d) 394 577 [a0, a1, a2, a3, a4, a5, some (.int y), some (.int z), a8] st M x := Rs_next c394_575 rfl
theorem c394_577 : qx_code 394 577 = some (577, .aload_n 2, 578, 0, 0, 0) := by decide +kernel
theorem s394_577 {L : Nat} {xs : Nat → Int32} {d x : Nat} {M : qxM} {st : List Value} {a0 a1 a3 a4 a5 a6 a7 a8 : Option Value} {z : Nat} : Rs L xs (d) 394 577 [a0, a1, some (.ref z), a3, a4, a5, a6, a7, a8] st M x = Rs L xs (d) 394 578 [a0, a1, some (.ref z), a3, a4, a5, a6, a7, a8] (.ref z :: st) M x := Rs_next c394_577 rfl
theorem c394_578 : qx_code 394 578 = some (578, .invokevirtual 218, 581, 177, 1, 1613) := by decide +kernel
theorem s394_578 {L : Nat} {xs : Nat → Int32} {d x : Nat} {M : qxM} {st : List Value} {ls : qxL} {t : Nat} (hk : qx_kd t = 18) (hs : st.length ≤ 4) : Rs L xs (d + 1) 394 578 ls (.ref t :: st) M x = (Rs L xs d 177 0 [some (.ref t)] [] M 0).bind (qx_kn L xs (d + 1) 394 578 581 177 ls st x) := by
  have h1 : qx_act L xs (qx_rt 394) (578, .invokevirtual 218, 581, 177, 1, 1613) ls (.ref t :: st) M = if 1 ≤ (.ref t :: st).length ∧ st.length ≤ 4 then some (.inr (.inr (.inr (177, [.ref t], st)))) else none := rfl
  rw [if_pos ⟨by simp [List.length_cons]; try omega, hs⟩] at h1
  have h2 := qx_kd_obj (k := 8) (by decide) hk
  exact Rs_call c394_578 h1 (by rw [show qx_args 177 [.ref t] = decide (qx_sh t = some (.inl 8)) from rfl]; exact decide_eq_true h2)
theorem c394_581 : qx_code 394 581 = some (581, .iload 6, 583, 0, 0, 0) := by decide +kernel
theorem s394_581 {L : Nat} {xs : Nat → Int32} {d x : Nat} {M : qxM} {st : List Value} {a0 a1 a2 a3 a4 a5 a7 a8 : Option Value} {z : Int32} : Rs L xs (d) 394 581 [a0, a1, a2, a3, a4, a5, some (.int z), a7, a8] st M x = Rs L xs (d) 394 583 [a0, a1, a2, a3, a4, a5, some (.int z), a7, a8] (.int z :: st) M x := Rs_next c394_581 rfl
theorem c394_583 : qx_code 394 583 = some (583, .if_icmp .eq 5, 586, 588, 0, 0) := by decide +kernel
theorem s394_583 {L : Nat} {xs : Nat → Int32} {d x : Nat} {M : qxM} {st : List Value} {ls : qxL} {z y : Int32} : Rs L xs (d) 394 583 ls (.int y :: .int z :: st) M x = if z = y then Rs L xs (d) 394 588 ls st M x else Rs L xs (d) 394 586 ls st M x := Rs_ite c394_583 rfl
theorem c394_588 : qx_code 394 588 = some (588, .iload 6, 590, 0, 0, 0) := by decide +kernel
theorem s394_588 {L : Nat} {xs : Nat → Int32} {d x : Nat} {M : qxM} {st : List Value} {a0 a1 a2 a3 a4 a5 a7 a8 : Option Value} {z : Int32} : Rs L xs (d) 394 588 [a0, a1, a2, a3, a4, a5, some (.int z), a7, a8] st M x = Rs L xs (d) 394 590 [a0, a1, a2, a3, a4, a5, some (.int z), a7, a8] (.int z :: st) M x := Rs_next c394_588 rfl
theorem c394_590 : qx_code 394 590 = some (590, .ifCond .ne 15, 593, 605, 0, 0) := by decide +kernel
theorem s394_590 {L : Nat} {xs : Nat → Int32} {d x : Nat} {M : qxM} {st : List Value} {ls : qxL} {z : Int32} : Rs L xs (d) 394 590 ls (.int z :: st) M x = if z = 0 then Rs L xs (d) 394 593 ls st M x else Rs L xs (d) 394 605 ls st M x := Rs_ite c394_590 rfl
theorem c394_593 : qx_code 394 593 = some (593, .aload_n 3, 594, 0, 0, 0) := by decide +kernel
theorem s394_593 {L : Nat} {xs : Nat → Int32} {d x : Nat} {M : qxM} {st : List Value} {a0 a1 a2 a4 a5 a6 a7 a8 : Option Value} {z : Nat} : Rs L xs (d) 394 593 [a0, a1, a2, some (.ref z), a4, a5, a6, a7, a8] st M x = Rs L xs (d) 394 594 [a0, a1, a2, some (.ref z), a4, a5, a6, a7, a8] (.ref z :: st) M x := Rs_next c394_593 rfl
theorem c394_594 : qx_code 394 594 = some (594, .iconst 0, 595, 0, 0, 0) := by decide +kernel
theorem s394_594 {L : Nat} {xs : Nat → Int32} {d x : Nat} {M : qxM} {st : List Value} {ls : qxL} : Rs L xs (d) 394 594 ls st M x = Rs L xs (d) 394 595 ls (.int (nI 0) :: st) M x := Rs_next c394_594 rfl
theorem c394_595 : qx_code 394 595 = some (595, .laload, 596, 0, 0, 0) := by decide +kernel
theorem s394_595 {L : Nat} {xs : Nat → Int32} {d x : Nat} {M : qxM} {st : List Value} {ls : qxL} {t : Nat} {j : Int32} (hk : qx_kd t = 4) (hj : qx_ib j (qx_ln t) = true) : Rs L xs (d) 394 595 ls (.int j :: .ref t :: st) M x = Rs L xs (d) 394 596 ls (.long (M.2.1 j.toNatClampNeg) :: st) M x := by
  have h1 := qx_kd_row (k := 4) (by decide) hk
  exact Rs_unless (qx_ib_not hj) c394_595 (by unfold qx_act; dsimp only; rw [h1]; rfl)
theorem c394_596 : qx_code 394 596 = some (596, .iload 7, 598, 0, 0, 0) := by decide +kernel
theorem s394_596 {L : Nat} {xs : Nat → Int32} {d x : Nat} {M : qxM} {st : List Value} {a0 a1 a2 a3 a4 a5 a6 a8 : Option Value} {z : Int32} : Rs L xs (d) 394 596 [a0, a1, a2, a3, a4, a5, a6, some (.int z), a8] st M x = Rs L xs (d) 394 598 [a0, a1, a2, a3, a4, a5, a6, some (.int z), a8] (.int z :: st) M x := Rs_next c394_596 rfl
theorem c394_598 : qx_code 394 598 = some (598, .i2l, 599, 0, 0, 0) := by decide +kernel
theorem s394_598 {L : Nat} {xs : Nat → Int32} {d x : Nat} {M : qxM} {st : List Value} {ls : qxL} {z : Int32} : Rs L xs (d) 394 598 ls (.int z :: st) M x = Rs L xs (d) 394 599 ls (.long z.toInt64 :: st) M x := Rs_next c394_598 rfl
theorem c394_599 : qx_code 394 599 = some (599, .lcmp, 600, 0, 0, 0) := by decide +kernel
theorem s394_599 {L : Nat} {xs : Nat → Int32} {d x : Nat} {M : qxM} {st : List Value} {ls : qxL} {z y : Int64} : Rs L xs (d) 394 599 ls (.long y :: .long z :: st) M x = Rs L xs (d) 394 600 ls (.int (lg_cmp z y) :: st) M x := Rs_next c394_599 rfl
theorem c394_600 : qx_code 394 600 = some (600, .ifCond .eq 5, 603, 605, 0, 0) := by decide +kernel
theorem s394_600 {L : Nat} {xs : Nat → Int32} {d x : Nat} {M : qxM} {st : List Value} {ls : qxL} {z : Int32} : Rs L xs (d) 394 600 ls (.int z :: st) M x = if z = 0 then Rs L xs (d) 394 605 ls st M x else Rs L xs (d) 394 603 ls st M x := Rs_ite c394_600 rfl
theorem c394_605 : qx_code 394 605 = some (605, .goto 3141, 608, 3746, 0, 0) := by decide +kernel
theorem s394_605 {L : Nat} {xs : Nat → Int32} {d x : Nat} {M : qxM} {st : List Value} {ls : qxL} : Rs L xs (d) 394 605 ls st M x = Rs L xs (d) 394 3746 ls st M x := Rs_next c394_605 rfl
theorem c394_608 : qx_code 394 608 = some (608, .aload_n 1, 609, 0, 0, 0) := by decide +kernel
theorem s394_608 {L : Nat} {xs : Nat → Int32} {d x : Nat} {M : qxM} {st : List Value} {a0 a2 a3 a4 a5 a6 a7 a8 : Option Value} {z : Nat} : Rs L xs (d) 394 608 [a0, some (.ref z), a2, a3, a4, a5, a6, a7, a8] st M x = Rs L xs (d) 394 609 [a0, some (.ref z), a2, a3, a4, a5, a6, a7, a8] (.ref z :: st) M x := Rs_next c394_608 rfl
theorem c394_609 : qx_code 394 609 = some (609, .aload_n 0, 610, 0, 0, 0) := by decide +kernel
theorem s394_609 {L : Nat} {xs : Nat → Int32} {d x : Nat} {M : qxM} {st : List Value} {a1 a2 a3 a4 a5 a6 a7 a8 : Option Value} {z : Nat} : Rs L xs (d) 394 609 [some (.ref z), a1, a2, a3, a4, a5, a6, a7, a8] st M x = Rs L xs (d) 394 610 [some (.ref z), a1, a2, a3, a4, a5, a6, a7, a8] (.ref z :: st) M x := Rs_next c394_609 rfl
theorem c394_610 : qx_code 394 610 = some (610, .iload 5, 612, 0, 0, 0) := by decide +kernel
theorem s394_610 {L : Nat} {xs : Nat → Int32} {d x : Nat} {M : qxM} {st : List Value} {a0 a1 a2 a3 a4 a6 a7 a8 : Option Value} {z : Int32} : Rs L xs (d) 394 610 [a0, a1, a2, a3, a4, some (.int z), a6, a7, a8] st M x = Rs L xs (d) 394 612 [a0, a1, a2, a3, a4, some (.int z), a6, a7, a8] (.int z :: st) M x := Rs_next c394_610 rfl
theorem c394_612 : qx_code 394 612 = some (612, .iconst 1, 613, 0, 0, 0) := by decide +kernel
theorem s394_612 {L : Nat} {xs : Nat → Int32} {d x : Nat} {M : qxM} {st : List Value} {ls : qxL} : Rs L xs (d) 394 612 ls st M x = Rs L xs (d) 394 613 ls (.int (nI 1) :: st) M x := Rs_next c394_612 rfl
theorem c394_613 : qx_code 394 613 = some (613, .iadd, 614, 0, 0, 0) := by decide +kernel
theorem s394_613 {L : Nat} {xs : Nat → Int32} {d x : Nat} {M : qxM} {st : List Value} {ls : qxL} {z y : Int32} : Rs L xs (d) 394 613 ls (.int y :: .int z :: st) M x = Rs L xs (d) 394 614 ls (.int (z + y) :: st) M x := Rs_next c394_613 rfl
theorem c394_614 : qx_code 394 614 = some (614, .iaload, 615, 0, 0, 0) := by decide +kernel
theorem s394_614s {L : Nat} {xs : Nat → Int32} {d x : Nat} {M : qxM} {st : List Value} {ls : qxL} {j : Int32} (hj : qx_ib j L = true) : Rs L xs (d) 394 614 ls (.int j :: .ref 1 :: st) M x = Rs L xs (d) 394 615 ls (.int (xs j.toNatClampNeg) :: st) M x := Rs_unless (qx_ib_not hj) c394_614 rfl
theorem c394_615 : qx_code 394 615 = some (615, .aload_n 0, 616, 0, 0, 0) := by decide +kernel
theorem s394_615 {L : Nat} {xs : Nat → Int32} {d x : Nat} {M : qxM} {st : List Value} {a1 a2 a3 a4 a5 a6 a7 a8 : Option Value} {z : Nat} : Rs L xs (d) 394 615 [some (.ref z), a1, a2, a3, a4, a5, a6, a7, a8] st M x = Rs L xs (d) 394 616 [some (.ref z), a1, a2, a3, a4, a5, a6, a7, a8] (.ref z :: st) M x := Rs_next c394_615 rfl
theorem c394_616 : qx_code 394 616 = some (616, .iload 5, 618, 0, 0, 0) := by decide +kernel
theorem s394_616 {L : Nat} {xs : Nat → Int32} {d x : Nat} {M : qxM} {st : List Value} {a0 a1 a2 a3 a4 a6 a7 a8 : Option Value} {z : Int32} : Rs L xs (d) 394 616 [a0, a1, a2, a3, a4, some (.int z), a6, a7, a8] st M x = Rs L xs (d) 394 618 [a0, a1, a2, a3, a4, some (.int z), a6, a7, a8] (.int z :: st) M x := Rs_next c394_616 rfl
theorem c394_618 : qx_code 394 618 = some (618, .iconst 2, 619, 0, 0, 0) := by decide +kernel
theorem s394_618 {L : Nat} {xs : Nat → Int32} {d x : Nat} {M : qxM} {st : List Value} {ls : qxL} : Rs L xs (d) 394 618 ls st M x = Rs L xs (d) 394 619 ls (.int (nI 2) :: st) M x := Rs_next c394_618 rfl
theorem c394_619 : qx_code 394 619 = some (619, .iadd, 620, 0, 0, 0) := by decide +kernel
theorem s394_619 {L : Nat} {xs : Nat → Int32} {d x : Nat} {M : qxM} {st : List Value} {ls : qxL} {z y : Int32} : Rs L xs (d) 394 619 ls (.int y :: .int z :: st) M x = Rs L xs (d) 394 620 ls (.int (z + y) :: st) M x := Rs_next c394_619 rfl
theorem c394_620 : qx_code 394 620 = some (620, .iaload, 621, 0, 0, 0) := by decide +kernel
theorem s394_620s {L : Nat} {xs : Nat → Int32} {d x : Nat} {M : qxM} {st : List Value} {ls : qxL} {j : Int32} (hj : qx_ib j L = true) : Rs L xs (d) 394 620 ls (.int j :: .ref 1 :: st) M x = Rs L xs (d) 394 621 ls (.int (xs j.toNatClampNeg) :: st) M x := Rs_unless (qx_ib_not hj) c394_620 rfl
theorem c394_621 : qx_code 394 621 = some (621, .aload_n 3, 622, 0, 0, 0) := by decide +kernel
theorem s394_621 {L : Nat} {xs : Nat → Int32} {d x : Nat} {M : qxM} {st : List Value} {a0 a1 a2 a4 a5 a6 a7 a8 : Option Value} {z : Nat} : Rs L xs (d) 394 621 [a0, a1, a2, some (.ref z), a4, a5, a6, a7, a8] st M x = Rs L xs (d) 394 622 [a0, a1, a2, some (.ref z), a4, a5, a6, a7, a8] (.ref z :: st) M x := Rs_next c394_621 rfl
theorem c394_622 : qx_code 394 622 = some (622, .invokestatic 240, 625, 338, 4, 792) := by decide +kernel
theorem s394_622 {L : Nat} {xs : Nat → Int32} {d x : Nat} {M : qxM} {st : List Value} {ls : qxL} {z0 : Nat} {z1 : Int32} {z2 : Int32} {z3 : Nat} (hs : st.length ≤ 4) : Rs L xs (d + 1) 394 622 ls (.ref z3 :: .int z2 :: .int z1 :: .ref z0 :: st) M x = (Rs L xs d 338 0 [some (.ref z0), some (.int z1), some (.int z2), some (.ref z3), none] [] M 0).bind (qx_kn L xs (d + 1) 394 622 625 338 ls st x) := by
  have h1 : qx_act L xs (qx_rt 394) (622, .invokestatic 240, 625, 338, 4, 792) ls (.ref z3 :: .int z2 :: .int z1 :: .ref z0 :: st) M = if 4 ≤ (.ref z3 :: .int z2 :: .int z1 :: .ref z0 :: st).length ∧ st.length ≤ 4 then some (.inr (.inr (.inr (338, [.ref z0, .int z1, .int z2, .ref z3], st)))) else none := rfl
  rw [if_pos ⟨by simp [List.length_cons]; try omega, hs⟩] at h1
  exact Rs_call c394_622 h1 rfl
theorem c394_625 : qx_code 394 625 = some (625, .istore 6, 627, 0, 0, 0) := by decide +kernel
theorem s394_625i {L : Nat} {xs : Nat → Int32} {d x : Nat} {M : qxM} {st : List Value} {a0 a1 a2 a3 a4 a6 a7 a8 : Option Value} {z : Int32} {y : Int32} : Rs L xs (d) 394 625 [a0, a1, a2, a3, a4, some (.int y), a6, a7, a8] (.int z :: st) M x = Rs L xs (d) 394 627 [a0, a1, a2, a3, a4, some (.int y), some (.int z), a7, a8] st M x := Rs_next c394_625 rfl
theorem c394_627 : qx_code 394 627 = some (627, .aload_n 2, 628, 0, 0, 0) := by decide +kernel
theorem s394_627 {L : Nat} {xs : Nat → Int32} {d x : Nat} {M : qxM} {st : List Value} {a0 a1 a3 a4 a5 a6 a7 a8 : Option Value} {z : Nat} : Rs L xs (d) 394 627 [a0, a1, some (.ref z), a3, a4, a5, a6, a7, a8] st M x = Rs L xs (d) 394 628 [a0, a1, some (.ref z), a3, a4, a5, a6, a7, a8] (.ref z :: st) M x := Rs_next c394_627 rfl
theorem c394_628 : qx_code 394 628 = some (628, .aload_n 0, 629, 0, 0, 0) := by decide +kernel
theorem s394_628 {L : Nat} {xs : Nat → Int32} {d x : Nat} {M : qxM} {st : List Value} {a1 a2 a3 a4 a5 a6 a7 a8 : Option Value} {z : Nat} : Rs L xs (d) 394 628 [some (.ref z), a1, a2, a3, a4, a5, a6, a7, a8] st M x = Rs L xs (d) 394 629 [some (.ref z), a1, a2, a3, a4, a5, a6, a7, a8] (.ref z :: st) M x := Rs_next c394_628 rfl
theorem c394_629 : qx_code 394 629 = some (629, .iload 5, 631, 0, 0, 0) := by decide +kernel
theorem s394_629 {L : Nat} {xs : Nat → Int32} {d x : Nat} {M : qxM} {st : List Value} {a0 a1 a2 a3 a4 a6 a7 a8 : Option Value} {z : Int32} : Rs L xs (d) 394 629 [a0, a1, a2, a3, a4, some (.int z), a6, a7, a8] st M x = Rs L xs (d) 394 631 [a0, a1, a2, a3, a4, some (.int z), a6, a7, a8] (.int z :: st) M x := Rs_next c394_629 rfl
theorem c394_631 : qx_code 394 631 = some (631, .iconst 1, 632, 0, 0, 0) := by decide +kernel
theorem s394_631 {L : Nat} {xs : Nat → Int32} {d x : Nat} {M : qxM} {st : List Value} {ls : qxL} : Rs L xs (d) 394 631 ls st M x = Rs L xs (d) 394 632 ls (.int (nI 1) :: st) M x := Rs_next c394_631 rfl
theorem c394_632 : qx_code 394 632 = some (632, .iadd, 633, 0, 0, 0) := by decide +kernel
theorem s394_632 {L : Nat} {xs : Nat → Int32} {d x : Nat} {M : qxM} {st : List Value} {ls : qxL} {z y : Int32} : Rs L xs (d) 394 632 ls (.int y :: .int z :: st) M x = Rs L xs (d) 394 633 ls (.int (z + y) :: st) M x := Rs_next c394_632 rfl
theorem c394_633 : qx_code 394 633 = some (633, .iaload, 634, 0, 0, 0) := by decide +kernel
theorem s394_633s {L : Nat} {xs : Nat → Int32} {d x : Nat} {M : qxM} {st : List Value} {ls : qxL} {j : Int32} (hj : qx_ib j L = true) : Rs L xs (d) 394 633 ls (.int j :: .ref 1 :: st) M x = Rs L xs (d) 394 634 ls (.int (xs j.toNatClampNeg) :: st) M x := Rs_unless (qx_ib_not hj) c394_633 rfl
theorem c394_634 : qx_code 394 634 = some (634, .aload_n 0, 635, 0, 0, 0) := by decide +kernel
theorem s394_634 {L : Nat} {xs : Nat → Int32} {d x : Nat} {M : qxM} {st : List Value} {a1 a2 a3 a4 a5 a6 a7 a8 : Option Value} {z : Nat} : Rs L xs (d) 394 634 [some (.ref z), a1, a2, a3, a4, a5, a6, a7, a8] st M x = Rs L xs (d) 394 635 [some (.ref z), a1, a2, a3, a4, a5, a6, a7, a8] (.ref z :: st) M x := Rs_next c394_634 rfl
theorem c394_635 : qx_code 394 635 = some (635, .iload 5, 637, 0, 0, 0) := by decide +kernel
theorem s394_635 {L : Nat} {xs : Nat → Int32} {d x : Nat} {M : qxM} {st : List Value} {a0 a1 a2 a3 a4 a6 a7 a8 : Option Value} {z : Int32} : Rs L xs (d) 394 635 [a0, a1, a2, a3, a4, some (.int z), a6, a7, a8] st M x = Rs L xs (d) 394 637 [a0, a1, a2, a3, a4, some (.int z), a6, a7, a8] (.int z :: st) M x := Rs_next c394_635 rfl
theorem c394_637 : qx_code 394 637 = some (637, .iconst 2, 638, 0, 0, 0) := by decide +kernel
theorem s394_637 {L : Nat} {xs : Nat → Int32} {d x : Nat} {M : qxM} {st : List Value} {ls : qxL} : Rs L xs (d) 394 637 ls st M x = Rs L xs (d) 394 638 ls (.int (nI 2) :: st) M x := Rs_next c394_637 rfl
theorem c394_638 : qx_code 394 638 = some (638, .iadd, 639, 0, 0, 0) := by decide +kernel
theorem s394_638 {L : Nat} {xs : Nat → Int32} {d x : Nat} {M : qxM} {st : List Value} {ls : qxL} {z y : Int32} : Rs L xs (d) 394 638 ls (.int y :: .int z :: st) M x = Rs L xs (d) 394 639 ls (.int (z + y) :: st) M x := Rs_next c394_638 rfl
theorem c394_639 : qx_code 394 639 = some (639, .iaload, 640, 0, 0, 0) := by decide +kernel
theorem s394_639s {L : Nat} {xs : Nat → Int32} {d x : Nat} {M : qxM} {st : List Value} {ls : qxL} {j : Int32} (hj : qx_ib j L = true) : Rs L xs (d) 394 639 ls (.int j :: .ref 1 :: st) M x = Rs L xs (d) 394 640 ls (.int (xs j.toNatClampNeg) :: st) M x := Rs_unless (qx_ib_not hj) c394_639 rfl
theorem c394_640 : qx_code 394 640 = some (640, .invokevirtual 242, 643, 229, 3, 1807) := by decide +kernel
theorem s394_640 {L : Nat} {xs : Nat → Int32} {d x : Nat} {M : qxM} {st : List Value} {ls : qxL} {t : Nat} {z0 : Int32} {z1 : Int32} (hk : qx_kd t = 18) (hs : st.length ≤ 4) : Rs L xs (d + 1) 394 640 ls (.int z1 :: .int z0 :: .ref t :: st) M x = (Rs L xs d 229 0 [some (.ref t), some (.int z0), some (.int z1)] [] M 0).bind (qx_kn L xs (d + 1) 394 640 643 229 ls st x) := by
  have h1 : qx_act L xs (qx_rt 394) (640, .invokevirtual 242, 643, 229, 3, 1807) ls (.int z1 :: .int z0 :: .ref t :: st) M = if 3 ≤ (.int z1 :: .int z0 :: .ref t :: st).length ∧ st.length ≤ 4 then some (.inr (.inr (.inr (229, [.ref t, .int z0, .int z1], st)))) else none := rfl
  rw [if_pos ⟨by simp [List.length_cons]; try omega, hs⟩] at h1
  have h2 := qx_kd_obj (k := 8) (by decide) hk
  exact Rs_call c394_640 h1 (by rw [show qx_args 229 [.ref t, .int z0, .int z1] = decide (qx_sh t = some (.inl 8)) from rfl]; exact decide_eq_true h2)
theorem c394_643 : qx_code 394 643 = some (643, .istore 7, 645, 0, 0, 0) := by decide +kernel
theorem s394_643i {L : Nat} {xs : Nat → Int32} {d x : Nat} {M : qxM} {st : List Value} {a0 a1 a2 a3 a4 a5 a7 a8 : Option Value} {z : Int32} {y : Int32} : Rs L xs (d) 394 643 [a0, a1, a2, a3, a4, a5, some (.int y), a7, a8] (.int z :: st) M x = Rs L xs (d) 394 645 [a0, a1, a2, a3, a4, a5, some (.int y), some (.int z), a8] st M x := Rs_next c394_643 rfl
theorem c394_645 : qx_code 394 645 = some (645, .aload_n 2, 646, 0, 0, 0) := by decide +kernel
theorem s394_645 {L : Nat} {xs : Nat → Int32} {d x : Nat} {M : qxM} {st : List Value} {a0 a1 a3 a4 a5 a6 a7 a8 : Option Value} {z : Nat} : Rs L xs (d) 394 645 [a0, a1, some (.ref z), a3, a4, a5, a6, a7, a8] st M x = Rs L xs (d) 394 646 [a0, a1, some (.ref z), a3, a4, a5, a6, a7, a8] (.ref z :: st) M x := Rs_next c394_645 rfl
theorem c394_646 : qx_code 394 646 = some (646, .invokevirtual 218, 649, 177, 1, 1613) := by decide +kernel
theorem s394_646 {L : Nat} {xs : Nat → Int32} {d x : Nat} {M : qxM} {st : List Value} {ls : qxL} {t : Nat} (hk : qx_kd t = 18) (hs : st.length ≤ 4) : Rs L xs (d + 1) 394 646 ls (.ref t :: st) M x = (Rs L xs d 177 0 [some (.ref t)] [] M 0).bind (qx_kn L xs (d + 1) 394 646 649 177 ls st x) := by
  have h1 : qx_act L xs (qx_rt 394) (646, .invokevirtual 218, 649, 177, 1, 1613) ls (.ref t :: st) M = if 1 ≤ (.ref t :: st).length ∧ st.length ≤ 4 then some (.inr (.inr (.inr (177, [.ref t], st)))) else none := rfl
  rw [if_pos ⟨by simp [List.length_cons]; try omega, hs⟩] at h1
  have h2 := qx_kd_obj (k := 8) (by decide) hk
  exact Rs_call c394_646 h1 (by rw [show qx_args 177 [.ref t] = decide (qx_sh t = some (.inl 8)) from rfl]; exact decide_eq_true h2)
theorem c394_649 : qx_code 394 649 = some (649, .iload 6, 651, 0, 0, 0) := by decide +kernel
theorem s394_649 {L : Nat} {xs : Nat → Int32} {d x : Nat} {M : qxM} {st : List Value} {a0 a1 a2 a3 a4 a5 a7 a8 : Option Value} {z : Int32} : Rs L xs (d) 394 649 [a0, a1, a2, a3, a4, a5, some (.int z), a7, a8] st M x = Rs L xs (d) 394 651 [a0, a1, a2, a3, a4, a5, some (.int z), a7, a8] (.int z :: st) M x := Rs_next c394_649 rfl
theorem c394_651 : qx_code 394 651 = some (651, .if_icmp .eq 5, 654, 656, 0, 0) := by decide +kernel
theorem s394_651 {L : Nat} {xs : Nat → Int32} {d x : Nat} {M : qxM} {st : List Value} {ls : qxL} {z y : Int32} : Rs L xs (d) 394 651 ls (.int y :: .int z :: st) M x = if z = y then Rs L xs (d) 394 656 ls st M x else Rs L xs (d) 394 654 ls st M x := Rs_ite c394_651 rfl
theorem c394_656 : qx_code 394 656 = some (656, .iload 6, 658, 0, 0, 0) := by decide +kernel
theorem s394_656 {L : Nat} {xs : Nat → Int32} {d x : Nat} {M : qxM} {st : List Value} {a0 a1 a2 a3 a4 a5 a7 a8 : Option Value} {z : Int32} : Rs L xs (d) 394 656 [a0, a1, a2, a3, a4, a5, some (.int z), a7, a8] st M x = Rs L xs (d) 394 658 [a0, a1, a2, a3, a4, a5, some (.int z), a7, a8] (.int z :: st) M x := Rs_next c394_656 rfl
theorem c394_658 : qx_code 394 658 = some (658, .ifCond .ne 22, 661, 680, 0, 0) := by decide +kernel
theorem s394_658 {L : Nat} {xs : Nat → Int32} {d x : Nat} {M : qxM} {st : List Value} {ls : qxL} {z : Int32} : Rs L xs (d) 394 658 ls (.int z :: st) M x = if z = 0 then Rs L xs (d) 394 661 ls st M x else Rs L xs (d) 394 680 ls st M x := Rs_ite c394_658 rfl
theorem c394_661 : qx_code 394 661 = some (661, .aload_n 3, 662, 0, 0, 0) := by decide +kernel
theorem s394_661 {L : Nat} {xs : Nat → Int32} {d x : Nat} {M : qxM} {st : List Value} {a0 a1 a2 a4 a5 a6 a7 a8 : Option Value} {z : Nat} : Rs L xs (d) 394 661 [a0, a1, a2, some (.ref z), a4, a5, a6, a7, a8] st M x = Rs L xs (d) 394 662 [a0, a1, a2, some (.ref z), a4, a5, a6, a7, a8] (.ref z :: st) M x := Rs_next c394_661 rfl
theorem c394_662 : qx_code 394 662 = some (662, .iconst 0, 663, 0, 0, 0) := by decide +kernel
theorem s394_662 {L : Nat} {xs : Nat → Int32} {d x : Nat} {M : qxM} {st : List Value} {ls : qxL} : Rs L xs (d) 394 662 ls st M x = Rs L xs (d) 394 663 ls (.int (nI 0) :: st) M x := Rs_next c394_662 rfl
theorem c394_663 : qx_code 394 663 = some (663, .laload, 664, 0, 0, 0) := by decide +kernel
theorem s394_663 {L : Nat} {xs : Nat → Int32} {d x : Nat} {M : qxM} {st : List Value} {ls : qxL} {t : Nat} {j : Int32} (hk : qx_kd t = 4) (hj : qx_ib j (qx_ln t) = true) : Rs L xs (d) 394 663 ls (.int j :: .ref t :: st) M x = Rs L xs (d) 394 664 ls (.long (M.2.1 j.toNatClampNeg) :: st) M x := by
  have h1 := qx_kd_row (k := 4) (by decide) hk
  exact Rs_unless (qx_ib_not hj) c394_663 (by unfold qx_act; dsimp only; rw [h1]; rfl)
theorem c394_664 : qx_code 394 664 = some (664, .iload 7, 666, 0, 0, 0) := by decide +kernel
theorem s394_664 {L : Nat} {xs : Nat → Int32} {d x : Nat} {M : qxM} {st : List Value} {a0 a1 a2 a3 a4 a5 a6 a8 : Option Value} {z : Int32} : Rs L xs (d) 394 664 [a0, a1, a2, a3, a4, a5, a6, some (.int z), a8] st M x = Rs L xs (d) 394 666 [a0, a1, a2, a3, a4, a5, a6, some (.int z), a8] (.int z :: st) M x := Rs_next c394_664 rfl
theorem c394_666 : qx_code 394 666 = some (666, .ifCond .eq 7, 669, 673, 0, 0) := by decide +kernel
theorem s394_666 {L : Nat} {xs : Nat → Int32} {d x : Nat} {M : qxM} {st : List Value} {ls : qxL} {z : Int32} : Rs L xs (d) 394 666 ls (.int z :: st) M x = if z = 0 then Rs L xs (d) 394 673 ls st M x else Rs L xs (d) 394 669 ls st M x := Rs_ite c394_666 rfl
theorem c394_669 : qx_code 394 669 = some (669, .lconst 1, 670, 0, 0, 0) := by decide +kernel
theorem s394_669 {L : Nat} {xs : Nat → Int32} {d x : Nat} {M : qxM} {st : List Value} {ls : qxL} : Rs L xs (d) 394 669 ls st M x = Rs L xs (d) 394 670 ls (.long (Int64.ofNat 1) :: st) M x := Rs_next c394_669 rfl
theorem c394_670 : qx_code 394 670 = some (670, .goto 4, 673, 674, 0, 0) := by decide +kernel
theorem s394_670 {L : Nat} {xs : Nat → Int32} {d x : Nat} {M : qxM} {st : List Value} {ls : qxL} : Rs L xs (d) 394 670 ls st M x = Rs L xs (d) 394 674 ls st M x := Rs_next c394_670 rfl
theorem c394_673 : qx_code 394 673 = some (673, .lconst 0, 674, 0, 0, 0) := by decide +kernel
theorem s394_673 {L : Nat} {xs : Nat → Int32} {d x : Nat} {M : qxM} {st : List Value} {ls : qxL} : Rs L xs (d) 394 673 ls st M x = Rs L xs (d) 394 674 ls (.long (Int64.ofNat 0) :: st) M x := Rs_next c394_673 rfl
theorem c394_674 : qx_code 394 674 = some (674, .lcmp, 675, 0, 0, 0) := by decide +kernel
theorem s394_674 {L : Nat} {xs : Nat → Int32} {d x : Nat} {M : qxM} {st : List Value} {ls : qxL} {z y : Int64} : Rs L xs (d) 394 674 ls (.long y :: .long z :: st) M x = Rs L xs (d) 394 675 ls (.int (lg_cmp z y) :: st) M x := Rs_next c394_674 rfl
theorem c394_675 : qx_code 394 675 = some (675, .ifCond .eq 5, 678, 680, 0, 0) := by decide +kernel
theorem s394_675 {L : Nat} {xs : Nat → Int32} {d x : Nat} {M : qxM} {st : List Value} {ls : qxL} {z : Int32} : Rs L xs (d) 394 675 ls (.int z :: st) M x = if z = 0 then Rs L xs (d) 394 680 ls st M x else Rs L xs (d) 394 678 ls st M x := Rs_ite c394_675 rfl
theorem c394_680 : qx_code 394 680 = some (680, .goto 3066, 683, 3746, 0, 0) := by decide +kernel
theorem s394_680 {L : Nat} {xs : Nat → Int32} {d x : Nat} {M : qxM} {st : List Value} {ls : qxL} : Rs L xs (d) 394 680 ls st M x = Rs L xs (d) 394 3746 ls st M x := Rs_next c394_680 rfl
theorem c394_683 : qx_code 394 683 = some (683, .aload_n 1, 684, 0, 0, 0) := by decide +kernel
theorem s394_683 {L : Nat} {xs : Nat → Int32} {d x : Nat} {M : qxM} {st : List Value} {a0 a2 a3 a4 a5 a6 a7 a8 : Option Value} {z : Nat} : Rs L xs (d) 394 683 [a0, some (.ref z), a2, a3, a4, a5, a6, a7, a8] st M x = Rs L xs (d) 394 684 [a0, some (.ref z), a2, a3, a4, a5, a6, a7, a8] (.ref z :: st) M x := Rs_next c394_683 rfl
theorem c394_684 : qx_code 394 684 = some (684, .aload_n 0, 685, 0, 0, 0) := by decide +kernel
theorem s394_684 {L : Nat} {xs : Nat → Int32} {d x : Nat} {M : qxM} {st : List Value} {a1 a2 a3 a4 a5 a6 a7 a8 : Option Value} {z : Nat} : Rs L xs (d) 394 684 [some (.ref z), a1, a2, a3, a4, a5, a6, a7, a8] st M x = Rs L xs (d) 394 685 [some (.ref z), a1, a2, a3, a4, a5, a6, a7, a8] (.ref z :: st) M x := Rs_next c394_684 rfl
theorem c394_685 : qx_code 394 685 = some (685, .iload 5, 687, 0, 0, 0) := by decide +kernel
theorem s394_685 {L : Nat} {xs : Nat → Int32} {d x : Nat} {M : qxM} {st : List Value} {a0 a1 a2 a3 a4 a6 a7 a8 : Option Value} {z : Int32} : Rs L xs (d) 394 685 [a0, a1, a2, a3, a4, some (.int z), a6, a7, a8] st M x = Rs L xs (d) 394 687 [a0, a1, a2, a3, a4, some (.int z), a6, a7, a8] (.int z :: st) M x := Rs_next c394_685 rfl
theorem c394_687 : qx_code 394 687 = some (687, .iconst 1, 688, 0, 0, 0) := by decide +kernel
theorem s394_687 {L : Nat} {xs : Nat → Int32} {d x : Nat} {M : qxM} {st : List Value} {ls : qxL} : Rs L xs (d) 394 687 ls st M x = Rs L xs (d) 394 688 ls (.int (nI 1) :: st) M x := Rs_next c394_687 rfl
theorem c394_688 : qx_code 394 688 = some (688, .iadd, 689, 0, 0, 0) := by decide +kernel
theorem s394_688 {L : Nat} {xs : Nat → Int32} {d x : Nat} {M : qxM} {st : List Value} {ls : qxL} {z y : Int32} : Rs L xs (d) 394 688 ls (.int y :: .int z :: st) M x = Rs L xs (d) 394 689 ls (.int (z + y) :: st) M x := Rs_next c394_688 rfl
theorem c394_689 : qx_code 394 689 = some (689, .iaload, 690, 0, 0, 0) := by decide +kernel
theorem s394_689s {L : Nat} {xs : Nat → Int32} {d x : Nat} {M : qxM} {st : List Value} {ls : qxL} {j : Int32} (hj : qx_ib j L = true) : Rs L xs (d) 394 689 ls (.int j :: .ref 1 :: st) M x = Rs L xs (d) 394 690 ls (.int (xs j.toNatClampNeg) :: st) M x := Rs_unless (qx_ib_not hj) c394_689 rfl
theorem c394_690 : qx_code 394 690 = some (690, .aload_n 0, 691, 0, 0, 0) := by decide +kernel
theorem s394_690 {L : Nat} {xs : Nat → Int32} {d x : Nat} {M : qxM} {st : List Value} {a1 a2 a3 a4 a5 a6 a7 a8 : Option Value} {z : Nat} : Rs L xs (d) 394 690 [some (.ref z), a1, a2, a3, a4, a5, a6, a7, a8] st M x = Rs L xs (d) 394 691 [some (.ref z), a1, a2, a3, a4, a5, a6, a7, a8] (.ref z :: st) M x := Rs_next c394_690 rfl
theorem c394_691 : qx_code 394 691 = some (691, .iload 5, 693, 0, 0, 0) := by decide +kernel
theorem s394_691 {L : Nat} {xs : Nat → Int32} {d x : Nat} {M : qxM} {st : List Value} {a0 a1 a2 a3 a4 a6 a7 a8 : Option Value} {z : Int32} : Rs L xs (d) 394 691 [a0, a1, a2, a3, a4, some (.int z), a6, a7, a8] st M x = Rs L xs (d) 394 693 [a0, a1, a2, a3, a4, some (.int z), a6, a7, a8] (.int z :: st) M x := Rs_next c394_691 rfl
theorem c394_693 : qx_code 394 693 = some (693, .iconst 2, 694, 0, 0, 0) := by decide +kernel
theorem s394_693 {L : Nat} {xs : Nat → Int32} {d x : Nat} {M : qxM} {st : List Value} {ls : qxL} : Rs L xs (d) 394 693 ls st M x = Rs L xs (d) 394 694 ls (.int (nI 2) :: st) M x := Rs_next c394_693 rfl
theorem c394_694 : qx_code 394 694 = some (694, .iadd, 695, 0, 0, 0) := by decide +kernel
theorem s394_694 {L : Nat} {xs : Nat → Int32} {d x : Nat} {M : qxM} {st : List Value} {ls : qxL} {z y : Int32} : Rs L xs (d) 394 694 ls (.int y :: .int z :: st) M x = Rs L xs (d) 394 695 ls (.int (z + y) :: st) M x := Rs_next c394_694 rfl
theorem c394_695 : qx_code 394 695 = some (695, .iaload, 696, 0, 0, 0) := by decide +kernel
theorem s394_695s {L : Nat} {xs : Nat → Int32} {d x : Nat} {M : qxM} {st : List Value} {ls : qxL} {j : Int32} (hj : qx_ib j L = true) : Rs L xs (d) 394 695 ls (.int j :: .ref 1 :: st) M x = Rs L xs (d) 394 696 ls (.int (xs j.toNatClampNeg) :: st) M x := Rs_unless (qx_ib_not hj) c394_695 rfl
theorem c394_696 : qx_code 394 696 = some (696, .aload_n 3, 697, 0, 0, 0) := by decide +kernel
theorem s394_696 {L : Nat} {xs : Nat → Int32} {d x : Nat} {M : qxM} {st : List Value} {a0 a1 a2 a4 a5 a6 a7 a8 : Option Value} {z : Nat} : Rs L xs (d) 394 696 [a0, a1, a2, some (.ref z), a4, a5, a6, a7, a8] st M x = Rs L xs (d) 394 697 [a0, a1, a2, some (.ref z), a4, a5, a6, a7, a8] (.ref z :: st) M x := Rs_next c394_696 rfl
theorem c394_697 : qx_code 394 697 = some (697, .invokestatic 243, 700, 339, 4, 804) := by decide +kernel
theorem s394_697 {L : Nat} {xs : Nat → Int32} {d x : Nat} {M : qxM} {st : List Value} {ls : qxL} {z0 : Nat} {z1 : Int32} {z2 : Int32} {z3 : Nat} (hs : st.length ≤ 4) : Rs L xs (d + 1) 394 697 ls (.ref z3 :: .int z2 :: .int z1 :: .ref z0 :: st) M x = (Rs L xs d 339 0 [some (.ref z0), some (.int z1), some (.int z2), some (.ref z3), none] [] M 0).bind (qx_kn L xs (d + 1) 394 697 700 339 ls st x) := by
  have h1 : qx_act L xs (qx_rt 394) (697, .invokestatic 243, 700, 339, 4, 804) ls (.ref z3 :: .int z2 :: .int z1 :: .ref z0 :: st) M = if 4 ≤ (.ref z3 :: .int z2 :: .int z1 :: .ref z0 :: st).length ∧ st.length ≤ 4 then some (.inr (.inr (.inr (339, [.ref z0, .int z1, .int z2, .ref z3], st)))) else none := rfl
  rw [if_pos ⟨by simp [List.length_cons]; try omega, hs⟩] at h1
  exact Rs_call c394_697 h1 rfl
theorem c394_700 : qx_code 394 700 = some (700, .istore 6, 702, 0, 0, 0) := by decide +kernel
theorem s394_700i {L : Nat} {xs : Nat → Int32} {d x : Nat} {M : qxM} {st : List Value} {a0 a1 a2 a3 a4 a6 a7 a8 : Option Value} {z : Int32} {y : Int32} : Rs L xs (d) 394 700 [a0, a1, a2, a3, a4, some (.int y), a6, a7, a8] (.int z :: st) M x = Rs L xs (d) 394 702 [a0, a1, a2, a3, a4, some (.int y), some (.int z), a7, a8] st M x := Rs_next c394_700 rfl
theorem c394_702 : qx_code 394 702 = some (702, .aload_n 2, 703, 0, 0, 0) := by decide +kernel
theorem s394_702 {L : Nat} {xs : Nat → Int32} {d x : Nat} {M : qxM} {st : List Value} {a0 a1 a3 a4 a5 a6 a7 a8 : Option Value} {z : Nat} : Rs L xs (d) 394 702 [a0, a1, some (.ref z), a3, a4, a5, a6, a7, a8] st M x = Rs L xs (d) 394 703 [a0, a1, some (.ref z), a3, a4, a5, a6, a7, a8] (.ref z :: st) M x := Rs_next c394_702 rfl
theorem c394_703 : qx_code 394 703 = some (703, .aload_n 0, 704, 0, 0, 0) := by decide +kernel
theorem s394_703 {L : Nat} {xs : Nat → Int32} {d x : Nat} {M : qxM} {st : List Value} {a1 a2 a3 a4 a5 a6 a7 a8 : Option Value} {z : Nat} : Rs L xs (d) 394 703 [some (.ref z), a1, a2, a3, a4, a5, a6, a7, a8] st M x = Rs L xs (d) 394 704 [some (.ref z), a1, a2, a3, a4, a5, a6, a7, a8] (.ref z :: st) M x := Rs_next c394_703 rfl
theorem c394_704 : qx_code 394 704 = some (704, .iload 5, 706, 0, 0, 0) := by decide +kernel
theorem s394_704 {L : Nat} {xs : Nat → Int32} {d x : Nat} {M : qxM} {st : List Value} {a0 a1 a2 a3 a4 a6 a7 a8 : Option Value} {z : Int32} : Rs L xs (d) 394 704 [a0, a1, a2, a3, a4, some (.int z), a6, a7, a8] st M x = Rs L xs (d) 394 706 [a0, a1, a2, a3, a4, some (.int z), a6, a7, a8] (.int z :: st) M x := Rs_next c394_704 rfl
theorem c394_706 : qx_code 394 706 = some (706, .iconst 1, 707, 0, 0, 0) := by decide +kernel
theorem s394_706 {L : Nat} {xs : Nat → Int32} {d x : Nat} {M : qxM} {st : List Value} {ls : qxL} : Rs L xs (d) 394 706 ls st M x = Rs L xs (d) 394 707 ls (.int (nI 1) :: st) M x := Rs_next c394_706 rfl
theorem c394_707 : qx_code 394 707 = some (707, .iadd, 708, 0, 0, 0) := by decide +kernel
theorem s394_707 {L : Nat} {xs : Nat → Int32} {d x : Nat} {M : qxM} {st : List Value} {ls : qxL} {z y : Int32} : Rs L xs (d) 394 707 ls (.int y :: .int z :: st) M x = Rs L xs (d) 394 708 ls (.int (z + y) :: st) M x := Rs_next c394_707 rfl
theorem c394_708 : qx_code 394 708 = some (708, .iaload, 709, 0, 0, 0) := by decide +kernel
theorem s394_708s {L : Nat} {xs : Nat → Int32} {d x : Nat} {M : qxM} {st : List Value} {ls : qxL} {j : Int32} (hj : qx_ib j L = true) : Rs L xs (d) 394 708 ls (.int j :: .ref 1 :: st) M x = Rs L xs (d) 394 709 ls (.int (xs j.toNatClampNeg) :: st) M x := Rs_unless (qx_ib_not hj) c394_708 rfl
theorem c394_709 : qx_code 394 709 = some (709, .aload_n 0, 710, 0, 0, 0) := by decide +kernel
theorem s394_709 {L : Nat} {xs : Nat → Int32} {d x : Nat} {M : qxM} {st : List Value} {a1 a2 a3 a4 a5 a6 a7 a8 : Option Value} {z : Nat} : Rs L xs (d) 394 709 [some (.ref z), a1, a2, a3, a4, a5, a6, a7, a8] st M x = Rs L xs (d) 394 710 [some (.ref z), a1, a2, a3, a4, a5, a6, a7, a8] (.ref z :: st) M x := Rs_next c394_709 rfl
theorem c394_710 : qx_code 394 710 = some (710, .iload 5, 712, 0, 0, 0) := by decide +kernel
theorem s394_710 {L : Nat} {xs : Nat → Int32} {d x : Nat} {M : qxM} {st : List Value} {a0 a1 a2 a3 a4 a6 a7 a8 : Option Value} {z : Int32} : Rs L xs (d) 394 710 [a0, a1, a2, a3, a4, some (.int z), a6, a7, a8] st M x = Rs L xs (d) 394 712 [a0, a1, a2, a3, a4, some (.int z), a6, a7, a8] (.int z :: st) M x := Rs_next c394_710 rfl
theorem c394_712 : qx_code 394 712 = some (712, .iconst 2, 713, 0, 0, 0) := by decide +kernel
theorem s394_712 {L : Nat} {xs : Nat → Int32} {d x : Nat} {M : qxM} {st : List Value} {ls : qxL} : Rs L xs (d) 394 712 ls st M x = Rs L xs (d) 394 713 ls (.int (nI 2) :: st) M x := Rs_next c394_712 rfl
theorem c394_713 : qx_code 394 713 = some (713, .iadd, 714, 0, 0, 0) := by decide +kernel
theorem s394_713 {L : Nat} {xs : Nat → Int32} {d x : Nat} {M : qxM} {st : List Value} {ls : qxL} {z y : Int32} : Rs L xs (d) 394 713 ls (.int y :: .int z :: st) M x = Rs L xs (d) 394 714 ls (.int (z + y) :: st) M x := Rs_next c394_713 rfl
theorem c394_714 : qx_code 394 714 = some (714, .iaload, 715, 0, 0, 0) := by decide +kernel
theorem s394_714s {L : Nat} {xs : Nat → Int32} {d x : Nat} {M : qxM} {st : List Value} {ls : qxL} {j : Int32} (hj : qx_ib j L = true) : Rs L xs (d) 394 714 ls (.int j :: .ref 1 :: st) M x = Rs L xs (d) 394 715 ls (.int (xs j.toNatClampNeg) :: st) M x := Rs_unless (qx_ib_not hj) c394_714 rfl
theorem c394_715 : qx_code 394 715 = some (715, .invokevirtual 245, 718, 230, 3, 1815) := by decide +kernel
theorem s394_715 {L : Nat} {xs : Nat → Int32} {d x : Nat} {M : qxM} {st : List Value} {ls : qxL} {t : Nat} {z0 : Int32} {z1 : Int32} (hk : qx_kd t = 18) (hs : st.length ≤ 4) : Rs L xs (d + 1) 394 715 ls (.int z1 :: .int z0 :: .ref t :: st) M x = (Rs L xs d 230 0 [some (.ref t), some (.int z0), some (.int z1), none, none] [] M 0).bind (qx_kn L xs (d + 1) 394 715 718 230 ls st x) := by
  have h1 : qx_act L xs (qx_rt 394) (715, .invokevirtual 245, 718, 230, 3, 1815) ls (.int z1 :: .int z0 :: .ref t :: st) M = if 3 ≤ (.int z1 :: .int z0 :: .ref t :: st).length ∧ st.length ≤ 4 then some (.inr (.inr (.inr (230, [.ref t, .int z0, .int z1], st)))) else none := rfl
  rw [if_pos ⟨by simp [List.length_cons]; try omega, hs⟩] at h1
  have h2 := qx_kd_obj (k := 8) (by decide) hk
  exact Rs_call c394_715 h1 (by rw [show qx_args 230 [.ref t, .int z0, .int z1] = decide (qx_sh t = some (.inl 8)) from rfl]; exact decide_eq_true h2)
theorem c394_718 : qx_code 394 718 = some (718, .istore 7, 720, 0, 0, 0) := by decide +kernel
theorem s394_718i {L : Nat} {xs : Nat → Int32} {d x : Nat} {M : qxM} {st : List Value} {a0 a1 a2 a3 a4 a5 a7 a8 : Option Value} {z : Int32} {y : Int32} : Rs L xs (d) 394 718 [a0, a1, a2, a3, a4, a5, some (.int y), a7, a8] (.int z :: st) M x = Rs L xs (d) 394 720 [a0, a1, a2, a3, a4, a5, some (.int y), some (.int z), a8] st M x := Rs_next c394_718 rfl
theorem c394_720 : qx_code 394 720 = some (720, .aload_n 2, 721, 0, 0, 0) := by decide +kernel
theorem s394_720 {L : Nat} {xs : Nat → Int32} {d x : Nat} {M : qxM} {st : List Value} {a0 a1 a3 a4 a5 a6 a7 a8 : Option Value} {z : Nat} : Rs L xs (d) 394 720 [a0, a1, some (.ref z), a3, a4, a5, a6, a7, a8] st M x = Rs L xs (d) 394 721 [a0, a1, some (.ref z), a3, a4, a5, a6, a7, a8] (.ref z :: st) M x := Rs_next c394_720 rfl
theorem c394_721 : qx_code 394 721 = some (721, .invokevirtual 218, 724, 177, 1, 1613) := by decide +kernel
theorem s394_721 {L : Nat} {xs : Nat → Int32} {d x : Nat} {M : qxM} {st : List Value} {ls : qxL} {t : Nat} (hk : qx_kd t = 18) (hs : st.length ≤ 4) : Rs L xs (d + 1) 394 721 ls (.ref t :: st) M x = (Rs L xs d 177 0 [some (.ref t)] [] M 0).bind (qx_kn L xs (d + 1) 394 721 724 177 ls st x) := by
  have h1 : qx_act L xs (qx_rt 394) (721, .invokevirtual 218, 724, 177, 1, 1613) ls (.ref t :: st) M = if 1 ≤ (.ref t :: st).length ∧ st.length ≤ 4 then some (.inr (.inr (.inr (177, [.ref t], st)))) else none := rfl
  rw [if_pos ⟨by simp [List.length_cons]; try omega, hs⟩] at h1
  have h2 := qx_kd_obj (k := 8) (by decide) hk
  exact Rs_call c394_721 h1 (by rw [show qx_args 177 [.ref t] = decide (qx_sh t = some (.inl 8)) from rfl]; exact decide_eq_true h2)
theorem c394_724 : qx_code 394 724 = some (724, .iload 6, 726, 0, 0, 0) := by decide +kernel
theorem s394_724 {L : Nat} {xs : Nat → Int32} {d x : Nat} {M : qxM} {st : List Value} {a0 a1 a2 a3 a4 a5 a7 a8 : Option Value} {z : Int32} : Rs L xs (d) 394 724 [a0, a1, a2, a3, a4, a5, some (.int z), a7, a8] st M x = Rs L xs (d) 394 726 [a0, a1, a2, a3, a4, a5, some (.int z), a7, a8] (.int z :: st) M x := Rs_next c394_724 rfl
theorem c394_726 : qx_code 394 726 = some (726, .if_icmp .eq 5, 729, 731, 0, 0) := by decide +kernel
theorem s394_726 {L : Nat} {xs : Nat → Int32} {d x : Nat} {M : qxM} {st : List Value} {ls : qxL} {z y : Int32} : Rs L xs (d) 394 726 ls (.int y :: .int z :: st) M x = if z = y then Rs L xs (d) 394 731 ls st M x else Rs L xs (d) 394 729 ls st M x := Rs_ite c394_726 rfl
theorem c394_731 : qx_code 394 731 = some (731, .iload 6, 733, 0, 0, 0) := by decide +kernel
theorem s394_731 {L : Nat} {xs : Nat → Int32} {d x : Nat} {M : qxM} {st : List Value} {a0 a1 a2 a3 a4 a5 a7 a8 : Option Value} {z : Int32} : Rs L xs (d) 394 731 [a0, a1, a2, a3, a4, a5, some (.int z), a7, a8] st M x = Rs L xs (d) 394 733 [a0, a1, a2, a3, a4, a5, some (.int z), a7, a8] (.int z :: st) M x := Rs_next c394_731 rfl
theorem c394_733 : qx_code 394 733 = some (733, .ifCond .ne 15, 736, 748, 0, 0) := by decide +kernel
theorem s394_733 {L : Nat} {xs : Nat → Int32} {d x : Nat} {M : qxM} {st : List Value} {ls : qxL} {z : Int32} : Rs L xs (d) 394 733 ls (.int z :: st) M x = if z = 0 then Rs L xs (d) 394 736 ls st M x else Rs L xs (d) 394 748 ls st M x := Rs_ite c394_733 rfl
theorem c394_736 : qx_code 394 736 = some (736, .aload_n 3, 737, 0, 0, 0) := by decide +kernel
theorem s394_736 {L : Nat} {xs : Nat → Int32} {d x : Nat} {M : qxM} {st : List Value} {a0 a1 a2 a4 a5 a6 a7 a8 : Option Value} {z : Nat} : Rs L xs (d) 394 736 [a0, a1, a2, some (.ref z), a4, a5, a6, a7, a8] st M x = Rs L xs (d) 394 737 [a0, a1, a2, some (.ref z), a4, a5, a6, a7, a8] (.ref z :: st) M x := Rs_next c394_736 rfl
theorem c394_737 : qx_code 394 737 = some (737, .iconst 0, 738, 0, 0, 0) := by decide +kernel
theorem s394_737 {L : Nat} {xs : Nat → Int32} {d x : Nat} {M : qxM} {st : List Value} {ls : qxL} : Rs L xs (d) 394 737 ls st M x = Rs L xs (d) 394 738 ls (.int (nI 0) :: st) M x := Rs_next c394_737 rfl
theorem c394_738 : qx_code 394 738 = some (738, .laload, 739, 0, 0, 0) := by decide +kernel
theorem s394_738 {L : Nat} {xs : Nat → Int32} {d x : Nat} {M : qxM} {st : List Value} {ls : qxL} {t : Nat} {j : Int32} (hk : qx_kd t = 4) (hj : qx_ib j (qx_ln t) = true) : Rs L xs (d) 394 738 ls (.int j :: .ref t :: st) M x = Rs L xs (d) 394 739 ls (.long (M.2.1 j.toNatClampNeg) :: st) M x := by
  have h1 := qx_kd_row (k := 4) (by decide) hk
  exact Rs_unless (qx_ib_not hj) c394_738 (by unfold qx_act; dsimp only; rw [h1]; rfl)
theorem c394_739 : qx_code 394 739 = some (739, .iload 7, 741, 0, 0, 0) := by decide +kernel
theorem s394_739 {L : Nat} {xs : Nat → Int32} {d x : Nat} {M : qxM} {st : List Value} {a0 a1 a2 a3 a4 a5 a6 a8 : Option Value} {z : Int32} : Rs L xs (d) 394 739 [a0, a1, a2, a3, a4, a5, a6, some (.int z), a8] st M x = Rs L xs (d) 394 741 [a0, a1, a2, a3, a4, a5, a6, some (.int z), a8] (.int z :: st) M x := Rs_next c394_739 rfl
theorem c394_741 : qx_code 394 741 = some (741, .i2l, 742, 0, 0, 0) := by decide +kernel
theorem s394_741 {L : Nat} {xs : Nat → Int32} {d x : Nat} {M : qxM} {st : List Value} {ls : qxL} {z : Int32} : Rs L xs (d) 394 741 ls (.int z :: st) M x = Rs L xs (d) 394 742 ls (.long z.toInt64 :: st) M x := Rs_next c394_741 rfl
theorem c394_742 : qx_code 394 742 = some (742, .lcmp, 743, 0, 0, 0) := by decide +kernel
theorem s394_742 {L : Nat} {xs : Nat → Int32} {d x : Nat} {M : qxM} {st : List Value} {ls : qxL} {z y : Int64} : Rs L xs (d) 394 742 ls (.long y :: .long z :: st) M x = Rs L xs (d) 394 743 ls (.int (lg_cmp z y) :: st) M x := Rs_next c394_742 rfl
theorem c394_743 : qx_code 394 743 = some (743, .ifCond .eq 5, 746, 748, 0, 0) := by decide +kernel
theorem s394_743 {L : Nat} {xs : Nat → Int32} {d x : Nat} {M : qxM} {st : List Value} {ls : qxL} {z : Int32} : Rs L xs (d) 394 743 ls (.int z :: st) M x = if z = 0 then Rs L xs (d) 394 748 ls st M x else Rs L xs (d) 394 746 ls st M x := Rs_ite c394_743 rfl
theorem c394_748 : qx_code 394 748 = some (748, .goto 2998, 751, 3746, 0, 0) := by decide +kernel
theorem s394_748 {L : Nat} {xs : Nat → Int32} {d x : Nat} {M : qxM} {st : List Value} {ls : qxL} : Rs L xs (d) 394 748 ls st M x = Rs L xs (d) 394 3746 ls st M x := Rs_next c394_748 rfl
theorem c394_751 : qx_code 394 751 = some (751, .aload_n 1, 752, 0, 0, 0) := by decide +kernel
theorem s394_751 {L : Nat} {xs : Nat → Int32} {d x : Nat} {M : qxM} {st : List Value} {a0 a2 a3 a4 a5 a6 a7 a8 : Option Value} {z : Nat} : Rs L xs (d) 394 751 [a0, some (.ref z), a2, a3, a4, a5, a6, a7, a8] st M x = Rs L xs (d) 394 752 [a0, some (.ref z), a2, a3, a4, a5, a6, a7, a8] (.ref z :: st) M x := Rs_next c394_751 rfl
theorem c394_752 : qx_code 394 752 = some (752, .aload_n 0, 753, 0, 0, 0) := by decide +kernel
theorem s394_752 {L : Nat} {xs : Nat → Int32} {d x : Nat} {M : qxM} {st : List Value} {a1 a2 a3 a4 a5 a6 a7 a8 : Option Value} {z : Nat} : Rs L xs (d) 394 752 [some (.ref z), a1, a2, a3, a4, a5, a6, a7, a8] st M x = Rs L xs (d) 394 753 [some (.ref z), a1, a2, a3, a4, a5, a6, a7, a8] (.ref z :: st) M x := Rs_next c394_752 rfl
theorem c394_753 : qx_code 394 753 = some (753, .iload 5, 755, 0, 0, 0) := by decide +kernel
theorem s394_753 {L : Nat} {xs : Nat → Int32} {d x : Nat} {M : qxM} {st : List Value} {a0 a1 a2 a3 a4 a6 a7 a8 : Option Value} {z : Int32} : Rs L xs (d) 394 753 [a0, a1, a2, a3, a4, some (.int z), a6, a7, a8] st M x = Rs L xs (d) 394 755 [a0, a1, a2, a3, a4, some (.int z), a6, a7, a8] (.int z :: st) M x := Rs_next c394_753 rfl
theorem c394_755 : qx_code 394 755 = some (755, .iconst 1, 756, 0, 0, 0) := by decide +kernel
theorem s394_755 {L : Nat} {xs : Nat → Int32} {d x : Nat} {M : qxM} {st : List Value} {ls : qxL} : Rs L xs (d) 394 755 ls st M x = Rs L xs (d) 394 756 ls (.int (nI 1) :: st) M x := Rs_next c394_755 rfl
theorem c394_756 : qx_code 394 756 = some (756, .iadd, 757, 0, 0, 0) := by decide +kernel
theorem s394_756 {L : Nat} {xs : Nat → Int32} {d x : Nat} {M : qxM} {st : List Value} {ls : qxL} {z y : Int32} : Rs L xs (d) 394 756 ls (.int y :: .int z :: st) M x = Rs L xs (d) 394 757 ls (.int (z + y) :: st) M x := Rs_next c394_756 rfl
theorem c394_757 : qx_code 394 757 = some (757, .iaload, 758, 0, 0, 0) := by decide +kernel
theorem s394_757s {L : Nat} {xs : Nat → Int32} {d x : Nat} {M : qxM} {st : List Value} {ls : qxL} {j : Int32} (hj : qx_ib j L = true) : Rs L xs (d) 394 757 ls (.int j :: .ref 1 :: st) M x = Rs L xs (d) 394 758 ls (.int (xs j.toNatClampNeg) :: st) M x := Rs_unless (qx_ib_not hj) c394_757 rfl
theorem c394_758 : qx_code 394 758 = some (758, .aload_n 0, 759, 0, 0, 0) := by decide +kernel
theorem s394_758 {L : Nat} {xs : Nat → Int32} {d x : Nat} {M : qxM} {st : List Value} {a1 a2 a3 a4 a5 a6 a7 a8 : Option Value} {z : Nat} : Rs L xs (d) 394 758 [some (.ref z), a1, a2, a3, a4, a5, a6, a7, a8] st M x = Rs L xs (d) 394 759 [some (.ref z), a1, a2, a3, a4, a5, a6, a7, a8] (.ref z :: st) M x := Rs_next c394_758 rfl
theorem c394_759 : qx_code 394 759 = some (759, .iload 5, 761, 0, 0, 0) := by decide +kernel
theorem s394_759 {L : Nat} {xs : Nat → Int32} {d x : Nat} {M : qxM} {st : List Value} {a0 a1 a2 a3 a4 a6 a7 a8 : Option Value} {z : Int32} : Rs L xs (d) 394 759 [a0, a1, a2, a3, a4, some (.int z), a6, a7, a8] st M x = Rs L xs (d) 394 761 [a0, a1, a2, a3, a4, some (.int z), a6, a7, a8] (.int z :: st) M x := Rs_next c394_759 rfl
theorem c394_761 : qx_code 394 761 = some (761, .iconst 2, 762, 0, 0, 0) := by decide +kernel
theorem s394_761 {L : Nat} {xs : Nat → Int32} {d x : Nat} {M : qxM} {st : List Value} {ls : qxL} : Rs L xs (d) 394 761 ls st M x = Rs L xs (d) 394 762 ls (.int (nI 2) :: st) M x := Rs_next c394_761 rfl
theorem c394_762 : qx_code 394 762 = some (762, .iadd, 763, 0, 0, 0) := by decide +kernel
theorem s394_762 {L : Nat} {xs : Nat → Int32} {d x : Nat} {M : qxM} {st : List Value} {ls : qxL} {z y : Int32} : Rs L xs (d) 394 762 ls (.int y :: .int z :: st) M x = Rs L xs (d) 394 763 ls (.int (z + y) :: st) M x := Rs_next c394_762 rfl
theorem c394_763 : qx_code 394 763 = some (763, .iaload, 764, 0, 0, 0) := by decide +kernel
theorem s394_763s {L : Nat} {xs : Nat → Int32} {d x : Nat} {M : qxM} {st : List Value} {ls : qxL} {j : Int32} (hj : qx_ib j L = true) : Rs L xs (d) 394 763 ls (.int j :: .ref 1 :: st) M x = Rs L xs (d) 394 764 ls (.int (xs j.toNatClampNeg) :: st) M x := Rs_unless (qx_ib_not hj) c394_763 rfl
theorem c394_764 : qx_code 394 764 = some (764, .aload_n 3, 765, 0, 0, 0) := by decide +kernel
theorem s394_764 {L : Nat} {xs : Nat → Int32} {d x : Nat} {M : qxM} {st : List Value} {a0 a1 a2 a4 a5 a6 a7 a8 : Option Value} {z : Nat} : Rs L xs (d) 394 764 [a0, a1, a2, some (.ref z), a4, a5, a6, a7, a8] st M x = Rs L xs (d) 394 765 [a0, a1, a2, some (.ref z), a4, a5, a6, a7, a8] (.ref z :: st) M x := Rs_next c394_764 rfl
theorem c394_765 : qx_code 394 765 = some (765, .invokestatic 246, 768, 340, 4, 811) := by decide +kernel
theorem s394_765 {L : Nat} {xs : Nat → Int32} {d x : Nat} {M : qxM} {st : List Value} {ls : qxL} {z0 : Nat} {z1 : Int32} {z2 : Int32} {z3 : Nat} (hs : st.length ≤ 4) : Rs L xs (d + 1) 394 765 ls (.ref z3 :: .int z2 :: .int z1 :: .ref z0 :: st) M x = (Rs L xs d 340 0 [some (.ref z0), some (.int z1), some (.int z2), some (.ref z3), none] [] M 0).bind (qx_kn L xs (d + 1) 394 765 768 340 ls st x) := by
  have h1 : qx_act L xs (qx_rt 394) (765, .invokestatic 246, 768, 340, 4, 811) ls (.ref z3 :: .int z2 :: .int z1 :: .ref z0 :: st) M = if 4 ≤ (.ref z3 :: .int z2 :: .int z1 :: .ref z0 :: st).length ∧ st.length ≤ 4 then some (.inr (.inr (.inr (340, [.ref z0, .int z1, .int z2, .ref z3], st)))) else none := rfl
  rw [if_pos ⟨by simp [List.length_cons]; try omega, hs⟩] at h1
  exact Rs_call c394_765 h1 rfl
theorem c394_768 : qx_code 394 768 = some (768, .istore 6, 770, 0, 0, 0) := by decide +kernel
theorem s394_768i {L : Nat} {xs : Nat → Int32} {d x : Nat} {M : qxM} {st : List Value} {a0 a1 a2 a3 a4 a6 a7 a8 : Option Value} {z : Int32} {y : Int32} : Rs L xs (d) 394 768 [a0, a1, a2, a3, a4, some (.int y), a6, a7, a8] (.int z :: st) M x = Rs L xs (d) 394 770 [a0, a1, a2, a3, a4, some (.int y), some (.int z), a7, a8] st M x := Rs_next c394_768 rfl
theorem c394_770 : qx_code 394 770 = some (770, .aload_n 2, 771, 0, 0, 0) := by decide +kernel
theorem s394_770 {L : Nat} {xs : Nat → Int32} {d x : Nat} {M : qxM} {st : List Value} {a0 a1 a3 a4 a5 a6 a7 a8 : Option Value} {z : Nat} : Rs L xs (d) 394 770 [a0, a1, some (.ref z), a3, a4, a5, a6, a7, a8] st M x = Rs L xs (d) 394 771 [a0, a1, some (.ref z), a3, a4, a5, a6, a7, a8] (.ref z :: st) M x := Rs_next c394_770 rfl
theorem c394_771 : qx_code 394 771 = some (771, .aload_n 0, 772, 0, 0, 0) := by decide +kernel
theorem s394_771 {L : Nat} {xs : Nat → Int32} {d x : Nat} {M : qxM} {st : List Value} {a1 a2 a3 a4 a5 a6 a7 a8 : Option Value} {z : Nat} : Rs L xs (d) 394 771 [some (.ref z), a1, a2, a3, a4, a5, a6, a7, a8] st M x = Rs L xs (d) 394 772 [some (.ref z), a1, a2, a3, a4, a5, a6, a7, a8] (.ref z :: st) M x := Rs_next c394_771 rfl
theorem c394_772 : qx_code 394 772 = some (772, .iload 5, 774, 0, 0, 0) := by decide +kernel
theorem s394_772 {L : Nat} {xs : Nat → Int32} {d x : Nat} {M : qxM} {st : List Value} {a0 a1 a2 a3 a4 a6 a7 a8 : Option Value} {z : Int32} : Rs L xs (d) 394 772 [a0, a1, a2, a3, a4, some (.int z), a6, a7, a8] st M x = Rs L xs (d) 394 774 [a0, a1, a2, a3, a4, some (.int z), a6, a7, a8] (.int z :: st) M x := Rs_next c394_772 rfl
theorem c394_774 : qx_code 394 774 = some (774, .iconst 1, 775, 0, 0, 0) := by decide +kernel
theorem s394_774 {L : Nat} {xs : Nat → Int32} {d x : Nat} {M : qxM} {st : List Value} {ls : qxL} : Rs L xs (d) 394 774 ls st M x = Rs L xs (d) 394 775 ls (.int (nI 1) :: st) M x := Rs_next c394_774 rfl
theorem c394_775 : qx_code 394 775 = some (775, .iadd, 776, 0, 0, 0) := by decide +kernel
theorem s394_775 {L : Nat} {xs : Nat → Int32} {d x : Nat} {M : qxM} {st : List Value} {ls : qxL} {z y : Int32} : Rs L xs (d) 394 775 ls (.int y :: .int z :: st) M x = Rs L xs (d) 394 776 ls (.int (z + y) :: st) M x := Rs_next c394_775 rfl
theorem c394_776 : qx_code 394 776 = some (776, .iaload, 777, 0, 0, 0) := by decide +kernel
theorem s394_776s {L : Nat} {xs : Nat → Int32} {d x : Nat} {M : qxM} {st : List Value} {ls : qxL} {j : Int32} (hj : qx_ib j L = true) : Rs L xs (d) 394 776 ls (.int j :: .ref 1 :: st) M x = Rs L xs (d) 394 777 ls (.int (xs j.toNatClampNeg) :: st) M x := Rs_unless (qx_ib_not hj) c394_776 rfl
theorem c394_777 : qx_code 394 777 = some (777, .aload_n 0, 778, 0, 0, 0) := by decide +kernel
theorem s394_777 {L : Nat} {xs : Nat → Int32} {d x : Nat} {M : qxM} {st : List Value} {a1 a2 a3 a4 a5 a6 a7 a8 : Option Value} {z : Nat} : Rs L xs (d) 394 777 [some (.ref z), a1, a2, a3, a4, a5, a6, a7, a8] st M x = Rs L xs (d) 394 778 [some (.ref z), a1, a2, a3, a4, a5, a6, a7, a8] (.ref z :: st) M x := Rs_next c394_777 rfl
theorem c394_778 : qx_code 394 778 = some (778, .iload 5, 780, 0, 0, 0) := by decide +kernel
theorem s394_778 {L : Nat} {xs : Nat → Int32} {d x : Nat} {M : qxM} {st : List Value} {a0 a1 a2 a3 a4 a6 a7 a8 : Option Value} {z : Int32} : Rs L xs (d) 394 778 [a0, a1, a2, a3, a4, some (.int z), a6, a7, a8] st M x = Rs L xs (d) 394 780 [a0, a1, a2, a3, a4, some (.int z), a6, a7, a8] (.int z :: st) M x := Rs_next c394_778 rfl
theorem c394_780 : qx_code 394 780 = some (780, .iconst 2, 781, 0, 0, 0) := by decide +kernel
theorem s394_780 {L : Nat} {xs : Nat → Int32} {d x : Nat} {M : qxM} {st : List Value} {ls : qxL} : Rs L xs (d) 394 780 ls st M x = Rs L xs (d) 394 781 ls (.int (nI 2) :: st) M x := Rs_next c394_780 rfl
theorem c394_781 : qx_code 394 781 = some (781, .iadd, 782, 0, 0, 0) := by decide +kernel
theorem s394_781 {L : Nat} {xs : Nat → Int32} {d x : Nat} {M : qxM} {st : List Value} {ls : qxL} {z y : Int32} : Rs L xs (d) 394 781 ls (.int y :: .int z :: st) M x = Rs L xs (d) 394 782 ls (.int (z + y) :: st) M x := Rs_next c394_781 rfl
theorem c394_782 : qx_code 394 782 = some (782, .iaload, 783, 0, 0, 0) := by decide +kernel
theorem s394_782s {L : Nat} {xs : Nat → Int32} {d x : Nat} {M : qxM} {st : List Value} {ls : qxL} {j : Int32} (hj : qx_ib j L = true) : Rs L xs (d) 394 782 ls (.int j :: .ref 1 :: st) M x = Rs L xs (d) 394 783 ls (.int (xs j.toNatClampNeg) :: st) M x := Rs_unless (qx_ib_not hj) c394_782 rfl
theorem c394_783 : qx_code 394 783 = some (783, .invokevirtual 248, 786, 232, 3, 1826) := by decide +kernel
theorem s394_783 {L : Nat} {xs : Nat → Int32} {d x : Nat} {M : qxM} {st : List Value} {ls : qxL} {t : Nat} {z0 : Int32} {z1 : Int32} (hk : qx_kd t = 18) (hs : st.length ≤ 4) : Rs L xs (d + 1) 394 783 ls (.int z1 :: .int z0 :: .ref t :: st) M x = (Rs L xs d 232 0 [some (.ref t), some (.int z0), some (.int z1)] [] M 0).bind (qx_kn L xs (d + 1) 394 783 786 232 ls st x) := by
  have h1 : qx_act L xs (qx_rt 394) (783, .invokevirtual 248, 786, 232, 3, 1826) ls (.int z1 :: .int z0 :: .ref t :: st) M = if 3 ≤ (.int z1 :: .int z0 :: .ref t :: st).length ∧ st.length ≤ 4 then some (.inr (.inr (.inr (232, [.ref t, .int z0, .int z1], st)))) else none := rfl
  rw [if_pos ⟨by simp [List.length_cons]; try omega, hs⟩] at h1
  have h2 := qx_kd_obj (k := 8) (by decide) hk
  exact Rs_call c394_783 h1 (by rw [show qx_args 232 [.ref t, .int z0, .int z1] = decide (qx_sh t = some (.inl 8)) from rfl]; exact decide_eq_true h2)
theorem c394_786 : qx_code 394 786 = some (786, .istore 7, 788, 0, 0, 0) := by decide +kernel
theorem s394_786i {L : Nat} {xs : Nat → Int32} {d x : Nat} {M : qxM} {st : List Value} {a0 a1 a2 a3 a4 a5 a7 a8 : Option Value} {z : Int32} {y : Int32} : Rs L xs (d) 394 786 [a0, a1, a2, a3, a4, a5, some (.int y), a7, a8] (.int z :: st) M x = Rs L xs (d) 394 788 [a0, a1, a2, a3, a4, a5, some (.int y), some (.int z), a8] st M x := Rs_next c394_786 rfl
theorem c394_788 : qx_code 394 788 = some (788, .aload_n 2, 789, 0, 0, 0) := by decide +kernel
theorem s394_788 {L : Nat} {xs : Nat → Int32} {d x : Nat} {M : qxM} {st : List Value} {a0 a1 a3 a4 a5 a6 a7 a8 : Option Value} {z : Nat} : Rs L xs (d) 394 788 [a0, a1, some (.ref z), a3, a4, a5, a6, a7, a8] st M x = Rs L xs (d) 394 789 [a0, a1, some (.ref z), a3, a4, a5, a6, a7, a8] (.ref z :: st) M x := Rs_next c394_788 rfl
theorem c394_789 : qx_code 394 789 = some (789, .invokevirtual 218, 792, 177, 1, 1613) := by decide +kernel
theorem s394_789 {L : Nat} {xs : Nat → Int32} {d x : Nat} {M : qxM} {st : List Value} {ls : qxL} {t : Nat} (hk : qx_kd t = 18) (hs : st.length ≤ 4) : Rs L xs (d + 1) 394 789 ls (.ref t :: st) M x = (Rs L xs d 177 0 [some (.ref t)] [] M 0).bind (qx_kn L xs (d + 1) 394 789 792 177 ls st x) := by
  have h1 : qx_act L xs (qx_rt 394) (789, .invokevirtual 218, 792, 177, 1, 1613) ls (.ref t :: st) M = if 1 ≤ (.ref t :: st).length ∧ st.length ≤ 4 then some (.inr (.inr (.inr (177, [.ref t], st)))) else none := rfl
  rw [if_pos ⟨by simp [List.length_cons]; try omega, hs⟩] at h1
  have h2 := qx_kd_obj (k := 8) (by decide) hk
  exact Rs_call c394_789 h1 (by rw [show qx_args 177 [.ref t] = decide (qx_sh t = some (.inl 8)) from rfl]; exact decide_eq_true h2)
theorem c394_792 : qx_code 394 792 = some (792, .iload 6, 794, 0, 0, 0) := by decide +kernel
theorem s394_792 {L : Nat} {xs : Nat → Int32} {d x : Nat} {M : qxM} {st : List Value} {a0 a1 a2 a3 a4 a5 a7 a8 : Option Value} {z : Int32} : Rs L xs (d) 394 792 [a0, a1, a2, a3, a4, a5, some (.int z), a7, a8] st M x = Rs L xs (d) 394 794 [a0, a1, a2, a3, a4, a5, some (.int z), a7, a8] (.int z :: st) M x := Rs_next c394_792 rfl
theorem c394_794 : qx_code 394 794 = some (794, .if_icmp .eq 5, 797, 799, 0, 0) := by decide +kernel
theorem s394_794 {L : Nat} {xs : Nat → Int32} {d x : Nat} {M : qxM} {st : List Value} {ls : qxL} {z y : Int32} : Rs L xs (d) 394 794 ls (.int y :: .int z :: st) M x = if z = y then Rs L xs (d) 394 799 ls st M x else Rs L xs (d) 394 797 ls st M x := Rs_ite c394_794 rfl
theorem c394_799 : qx_code 394 799 = some (799, .iload 6, 801, 0, 0, 0) := by decide +kernel
theorem s394_799 {L : Nat} {xs : Nat → Int32} {d x : Nat} {M : qxM} {st : List Value} {a0 a1 a2 a3 a4 a5 a7 a8 : Option Value} {z : Int32} : Rs L xs (d) 394 799 [a0, a1, a2, a3, a4, a5, some (.int z), a7, a8] st M x = Rs L xs (d) 394 801 [a0, a1, a2, a3, a4, a5, some (.int z), a7, a8] (.int z :: st) M x := Rs_next c394_799 rfl
theorem c394_801 : qx_code 394 801 = some (801, .ifCond .ne 15, 804, 816, 0, 0) := by decide +kernel
theorem s394_801 {L : Nat} {xs : Nat → Int32} {d x : Nat} {M : qxM} {st : List Value} {ls : qxL} {z : Int32} : Rs L xs (d) 394 801 ls (.int z :: st) M x = if z = 0 then Rs L xs (d) 394 804 ls st M x else Rs L xs (d) 394 816 ls st M x := Rs_ite c394_801 rfl
theorem c394_804 : qx_code 394 804 = some (804, .aload_n 3, 805, 0, 0, 0) := by decide +kernel
theorem s394_804 {L : Nat} {xs : Nat → Int32} {d x : Nat} {M : qxM} {st : List Value} {a0 a1 a2 a4 a5 a6 a7 a8 : Option Value} {z : Nat} : Rs L xs (d) 394 804 [a0, a1, a2, some (.ref z), a4, a5, a6, a7, a8] st M x = Rs L xs (d) 394 805 [a0, a1, a2, some (.ref z), a4, a5, a6, a7, a8] (.ref z :: st) M x := Rs_next c394_804 rfl
theorem c394_805 : qx_code 394 805 = some (805, .iconst 0, 806, 0, 0, 0) := by decide +kernel
theorem s394_805 {L : Nat} {xs : Nat → Int32} {d x : Nat} {M : qxM} {st : List Value} {ls : qxL} : Rs L xs (d) 394 805 ls st M x = Rs L xs (d) 394 806 ls (.int (nI 0) :: st) M x := Rs_next c394_805 rfl
theorem c394_806 : qx_code 394 806 = some (806, .laload, 807, 0, 0, 0) := by decide +kernel
theorem s394_806 {L : Nat} {xs : Nat → Int32} {d x : Nat} {M : qxM} {st : List Value} {ls : qxL} {t : Nat} {j : Int32} (hk : qx_kd t = 4) (hj : qx_ib j (qx_ln t) = true) : Rs L xs (d) 394 806 ls (.int j :: .ref t :: st) M x = Rs L xs (d) 394 807 ls (.long (M.2.1 j.toNatClampNeg) :: st) M x := by
  have h1 := qx_kd_row (k := 4) (by decide) hk
  exact Rs_unless (qx_ib_not hj) c394_806 (by unfold qx_act; dsimp only; rw [h1]; rfl)
theorem c394_807 : qx_code 394 807 = some (807, .iload 7, 809, 0, 0, 0) := by decide +kernel
theorem s394_807 {L : Nat} {xs : Nat → Int32} {d x : Nat} {M : qxM} {st : List Value} {a0 a1 a2 a3 a4 a5 a6 a8 : Option Value} {z : Int32} : Rs L xs (d) 394 807 [a0, a1, a2, a3, a4, a5, a6, some (.int z), a8] st M x = Rs L xs (d) 394 809 [a0, a1, a2, a3, a4, a5, a6, some (.int z), a8] (.int z :: st) M x := Rs_next c394_807 rfl
theorem c394_809 : qx_code 394 809 = some (809, .i2l, 810, 0, 0, 0) := by decide +kernel
theorem s394_809 {L : Nat} {xs : Nat → Int32} {d x : Nat} {M : qxM} {st : List Value} {ls : qxL} {z : Int32} : Rs L xs (d) 394 809 ls (.int z :: st) M x = Rs L xs (d) 394 810 ls (.long z.toInt64 :: st) M x := Rs_next c394_809 rfl
theorem c394_810 : qx_code 394 810 = some (810, .lcmp, 811, 0, 0, 0) := by decide +kernel
theorem s394_810 {L : Nat} {xs : Nat → Int32} {d x : Nat} {M : qxM} {st : List Value} {ls : qxL} {z y : Int64} : Rs L xs (d) 394 810 ls (.long y :: .long z :: st) M x = Rs L xs (d) 394 811 ls (.int (lg_cmp z y) :: st) M x := Rs_next c394_810 rfl
theorem c394_811 : qx_code 394 811 = some (811, .ifCond .eq 5, 814, 816, 0, 0) := by decide +kernel
theorem s394_811 {L : Nat} {xs : Nat → Int32} {d x : Nat} {M : qxM} {st : List Value} {ls : qxL} {z : Int32} : Rs L xs (d) 394 811 ls (.int z :: st) M x = if z = 0 then Rs L xs (d) 394 816 ls st M x else Rs L xs (d) 394 814 ls st M x := Rs_ite c394_811 rfl
theorem c394_816 : qx_code 394 816 = some (816, .goto 2930, 819, 3746, 0, 0) := by decide +kernel
theorem s394_816 {L : Nat} {xs : Nat → Int32} {d x : Nat} {M : qxM} {st : List Value} {ls : qxL} : Rs L xs (d) 394 816 ls st M x = Rs L xs (d) 394 3746 ls st M x := Rs_next c394_816 rfl
theorem c394_819 : qx_code 394 819 = some (819, .aload_n 1, 820, 0, 0, 0) := by decide +kernel
theorem s394_819 {L : Nat} {xs : Nat → Int32} {d x : Nat} {M : qxM} {st : List Value} {a0 a2 a3 a4 a5 a6 a7 a8 : Option Value} {z : Nat} : Rs L xs (d) 394 819 [a0, some (.ref z), a2, a3, a4, a5, a6, a7, a8] st M x = Rs L xs (d) 394 820 [a0, some (.ref z), a2, a3, a4, a5, a6, a7, a8] (.ref z :: st) M x := Rs_next c394_819 rfl
theorem c394_820 : qx_code 394 820 = some (820, .aload_n 0, 821, 0, 0, 0) := by decide +kernel
theorem s394_820 {L : Nat} {xs : Nat → Int32} {d x : Nat} {M : qxM} {st : List Value} {a1 a2 a3 a4 a5 a6 a7 a8 : Option Value} {z : Nat} : Rs L xs (d) 394 820 [some (.ref z), a1, a2, a3, a4, a5, a6, a7, a8] st M x = Rs L xs (d) 394 821 [some (.ref z), a1, a2, a3, a4, a5, a6, a7, a8] (.ref z :: st) M x := Rs_next c394_820 rfl
theorem c394_821 : qx_code 394 821 = some (821, .iload 5, 823, 0, 0, 0) := by decide +kernel
theorem s394_821 {L : Nat} {xs : Nat → Int32} {d x : Nat} {M : qxM} {st : List Value} {a0 a1 a2 a3 a4 a6 a7 a8 : Option Value} {z : Int32} : Rs L xs (d) 394 821 [a0, a1, a2, a3, a4, some (.int z), a6, a7, a8] st M x = Rs L xs (d) 394 823 [a0, a1, a2, a3, a4, some (.int z), a6, a7, a8] (.int z :: st) M x := Rs_next c394_821 rfl
theorem c394_823 : qx_code 394 823 = some (823, .iconst 1, 824, 0, 0, 0) := by decide +kernel
theorem s394_823 {L : Nat} {xs : Nat → Int32} {d x : Nat} {M : qxM} {st : List Value} {ls : qxL} : Rs L xs (d) 394 823 ls st M x = Rs L xs (d) 394 824 ls (.int (nI 1) :: st) M x := Rs_next c394_823 rfl
theorem c394_824 : qx_code 394 824 = some (824, .iadd, 825, 0, 0, 0) := by decide +kernel
theorem s394_824 {L : Nat} {xs : Nat → Int32} {d x : Nat} {M : qxM} {st : List Value} {ls : qxL} {z y : Int32} : Rs L xs (d) 394 824 ls (.int y :: .int z :: st) M x = Rs L xs (d) 394 825 ls (.int (z + y) :: st) M x := Rs_next c394_824 rfl
theorem c394_825 : qx_code 394 825 = some (825, .iaload, 826, 0, 0, 0) := by decide +kernel
theorem s394_825s {L : Nat} {xs : Nat → Int32} {d x : Nat} {M : qxM} {st : List Value} {ls : qxL} {j : Int32} (hj : qx_ib j L = true) : Rs L xs (d) 394 825 ls (.int j :: .ref 1 :: st) M x = Rs L xs (d) 394 826 ls (.int (xs j.toNatClampNeg) :: st) M x := Rs_unless (qx_ib_not hj) c394_825 rfl
theorem c394_826 : qx_code 394 826 = some (826, .aload_n 3, 827, 0, 0, 0) := by decide +kernel
theorem s394_826 {L : Nat} {xs : Nat → Int32} {d x : Nat} {M : qxM} {st : List Value} {a0 a1 a2 a4 a5 a6 a7 a8 : Option Value} {z : Nat} : Rs L xs (d) 394 826 [a0, a1, a2, some (.ref z), a4, a5, a6, a7, a8] st M x = Rs L xs (d) 394 827 [a0, a1, a2, some (.ref z), a4, a5, a6, a7, a8] (.ref z :: st) M x := Rs_next c394_826 rfl
theorem c394_827 : qx_code 394 827 = some (827, .invokestatic 249, 830, 341, 3, 828) := by decide +kernel
theorem s394_827 {L : Nat} {xs : Nat → Int32} {d x : Nat} {M : qxM} {st : List Value} {ls : qxL} {z0 : Nat} {z1 : Int32} {z2 : Nat} (hs : st.length ≤ 4) : Rs L xs (d + 1) 394 827 ls (.ref z2 :: .int z1 :: .ref z0 :: st) M x = (Rs L xs d 341 0 [some (.ref z0), some (.int z1), some (.ref z2), none] [] M 0).bind (qx_kn L xs (d + 1) 394 827 830 341 ls st x) := by
  have h1 : qx_act L xs (qx_rt 394) (827, .invokestatic 249, 830, 341, 3, 828) ls (.ref z2 :: .int z1 :: .ref z0 :: st) M = if 3 ≤ (.ref z2 :: .int z1 :: .ref z0 :: st).length ∧ st.length ≤ 4 then some (.inr (.inr (.inr (341, [.ref z0, .int z1, .ref z2], st)))) else none := rfl
  rw [if_pos ⟨by simp [List.length_cons]; try omega, hs⟩] at h1
  exact Rs_call c394_827 h1 rfl
theorem c394_830 : qx_code 394 830 = some (830, .istore 6, 832, 0, 0, 0) := by decide +kernel
theorem s394_830i {L : Nat} {xs : Nat → Int32} {d x : Nat} {M : qxM} {st : List Value} {a0 a1 a2 a3 a4 a6 a7 a8 : Option Value} {z : Int32} {y : Int32} : Rs L xs (d) 394 830 [a0, a1, a2, a3, a4, some (.int y), a6, a7, a8] (.int z :: st) M x = Rs L xs (d) 394 832 [a0, a1, a2, a3, a4, some (.int y), some (.int z), a7, a8] st M x := Rs_next c394_830 rfl
theorem c394_832 : qx_code 394 832 = some (832, .aload_n 2, 833, 0, 0, 0) := by decide +kernel
theorem s394_832 {L : Nat} {xs : Nat → Int32} {d x : Nat} {M : qxM} {st : List Value} {a0 a1 a3 a4 a5 a6 a7 a8 : Option Value} {z : Nat} : Rs L xs (d) 394 832 [a0, a1, some (.ref z), a3, a4, a5, a6, a7, a8] st M x = Rs L xs (d) 394 833 [a0, a1, some (.ref z), a3, a4, a5, a6, a7, a8] (.ref z :: st) M x := Rs_next c394_832 rfl
theorem c394_833 : qx_code 394 833 = some (833, .aload_n 0, 834, 0, 0, 0) := by decide +kernel
theorem s394_833 {L : Nat} {xs : Nat → Int32} {d x : Nat} {M : qxM} {st : List Value} {a1 a2 a3 a4 a5 a6 a7 a8 : Option Value} {z : Nat} : Rs L xs (d) 394 833 [some (.ref z), a1, a2, a3, a4, a5, a6, a7, a8] st M x = Rs L xs (d) 394 834 [some (.ref z), a1, a2, a3, a4, a5, a6, a7, a8] (.ref z :: st) M x := Rs_next c394_833 rfl
theorem c394_834 : qx_code 394 834 = some (834, .iload 5, 836, 0, 0, 0) := by decide +kernel
theorem s394_834 {L : Nat} {xs : Nat → Int32} {d x : Nat} {M : qxM} {st : List Value} {a0 a1 a2 a3 a4 a6 a7 a8 : Option Value} {z : Int32} : Rs L xs (d) 394 834 [a0, a1, a2, a3, a4, some (.int z), a6, a7, a8] st M x = Rs L xs (d) 394 836 [a0, a1, a2, a3, a4, some (.int z), a6, a7, a8] (.int z :: st) M x := Rs_next c394_834 rfl
theorem c394_836 : qx_code 394 836 = some (836, .iconst 1, 837, 0, 0, 0) := by decide +kernel
theorem s394_836 {L : Nat} {xs : Nat → Int32} {d x : Nat} {M : qxM} {st : List Value} {ls : qxL} : Rs L xs (d) 394 836 ls st M x = Rs L xs (d) 394 837 ls (.int (nI 1) :: st) M x := Rs_next c394_836 rfl
theorem c394_837 : qx_code 394 837 = some (837, .iadd, 838, 0, 0, 0) := by decide +kernel
theorem s394_837 {L : Nat} {xs : Nat → Int32} {d x : Nat} {M : qxM} {st : List Value} {ls : qxL} {z y : Int32} : Rs L xs (d) 394 837 ls (.int y :: .int z :: st) M x = Rs L xs (d) 394 838 ls (.int (z + y) :: st) M x := Rs_next c394_837 rfl
theorem c394_838 : qx_code 394 838 = some (838, .iaload, 839, 0, 0, 0) := by decide +kernel
theorem s394_838s {L : Nat} {xs : Nat → Int32} {d x : Nat} {M : qxM} {st : List Value} {ls : qxL} {j : Int32} (hj : qx_ib j L = true) : Rs L xs (d) 394 838 ls (.int j :: .ref 1 :: st) M x = Rs L xs (d) 394 839 ls (.int (xs j.toNatClampNeg) :: st) M x := Rs_unless (qx_ib_not hj) c394_838 rfl
theorem c394_839 : qx_code 394 839 = some (839, .invokevirtual 251, 842, 256, 2, 1834) := by decide +kernel
theorem s394_839 {L : Nat} {xs : Nat → Int32} {d x : Nat} {M : qxM} {st : List Value} {ls : qxL} {t : Nat} {z0 : Int32} (hk : qx_kd t = 18) (hs : st.length ≤ 4) : Rs L xs (d + 1) 394 839 ls (.int z0 :: .ref t :: st) M x = (Rs L xs d 256 0 [some (.ref t), some (.int z0)] [] M 0).bind (qx_kn L xs (d + 1) 394 839 842 256 ls st x) := by
  have h1 : qx_act L xs (qx_rt 394) (839, .invokevirtual 251, 842, 256, 2, 1834) ls (.int z0 :: .ref t :: st) M = if 2 ≤ (.int z0 :: .ref t :: st).length ∧ st.length ≤ 4 then some (.inr (.inr (.inr (256, [.ref t, .int z0], st)))) else none := rfl
  rw [if_pos ⟨by simp [List.length_cons]; try omega, hs⟩] at h1
  have h2 := qx_kd_obj (k := 8) (by decide) hk
  exact Rs_call c394_839 h1 (by rw [show qx_args 256 [.ref t, .int z0] = decide (qx_sh t = some (.inl 8)) from rfl]; exact decide_eq_true h2)
theorem c394_842 : qx_code 394 842 = some (842, .istore 7, 844, 0, 0, 0) := by decide +kernel
theorem s394_842i {L : Nat} {xs : Nat → Int32} {d x : Nat} {M : qxM} {st : List Value} {a0 a1 a2 a3 a4 a5 a7 a8 : Option Value} {z : Int32} {y : Int32} : Rs L xs (d) 394 842 [a0, a1, a2, a3, a4, a5, some (.int y), a7, a8] (.int z :: st) M x = Rs L xs (d) 394 844 [a0, a1, a2, a3, a4, a5, some (.int y), some (.int z), a8] st M x := Rs_next c394_842 rfl
theorem c394_844 : qx_code 394 844 = some (844, .aload_n 2, 845, 0, 0, 0) := by decide +kernel
theorem s394_844 {L : Nat} {xs : Nat → Int32} {d x : Nat} {M : qxM} {st : List Value} {a0 a1 a3 a4 a5 a6 a7 a8 : Option Value} {z : Nat} : Rs L xs (d) 394 844 [a0, a1, some (.ref z), a3, a4, a5, a6, a7, a8] st M x = Rs L xs (d) 394 845 [a0, a1, some (.ref z), a3, a4, a5, a6, a7, a8] (.ref z :: st) M x := Rs_next c394_844 rfl
theorem c394_845 : qx_code 394 845 = some (845, .invokevirtual 218, 848, 177, 1, 1613) := by decide +kernel
theorem s394_845 {L : Nat} {xs : Nat → Int32} {d x : Nat} {M : qxM} {st : List Value} {ls : qxL} {t : Nat} (hk : qx_kd t = 18) (hs : st.length ≤ 4) : Rs L xs (d + 1) 394 845 ls (.ref t :: st) M x = (Rs L xs d 177 0 [some (.ref t)] [] M 0).bind (qx_kn L xs (d + 1) 394 845 848 177 ls st x) := by
  have h1 : qx_act L xs (qx_rt 394) (845, .invokevirtual 218, 848, 177, 1, 1613) ls (.ref t :: st) M = if 1 ≤ (.ref t :: st).length ∧ st.length ≤ 4 then some (.inr (.inr (.inr (177, [.ref t], st)))) else none := rfl
  rw [if_pos ⟨by simp [List.length_cons]; try omega, hs⟩] at h1
  have h2 := qx_kd_obj (k := 8) (by decide) hk
  exact Rs_call c394_845 h1 (by rw [show qx_args 177 [.ref t] = decide (qx_sh t = some (.inl 8)) from rfl]; exact decide_eq_true h2)
theorem c394_848 : qx_code 394 848 = some (848, .iload 6, 850, 0, 0, 0) := by decide +kernel
theorem s394_848 {L : Nat} {xs : Nat → Int32} {d x : Nat} {M : qxM} {st : List Value} {a0 a1 a2 a3 a4 a5 a7 a8 : Option Value} {z : Int32} : Rs L xs (d) 394 848 [a0, a1, a2, a3, a4, a5, some (.int z), a7, a8] st M x = Rs L xs (d) 394 850 [a0, a1, a2, a3, a4, a5, some (.int z), a7, a8] (.int z :: st) M x := Rs_next c394_848 rfl
theorem c394_850 : qx_code 394 850 = some (850, .if_icmp .eq 5, 853, 855, 0, 0) := by decide +kernel
theorem s394_850 {L : Nat} {xs : Nat → Int32} {d x : Nat} {M : qxM} {st : List Value} {ls : qxL} {z y : Int32} : Rs L xs (d) 394 850 ls (.int y :: .int z :: st) M x = if z = y then Rs L xs (d) 394 855 ls st M x else Rs L xs (d) 394 853 ls st M x := Rs_ite c394_850 rfl
theorem c394_855 : qx_code 394 855 = some (855, .iload 6, 857, 0, 0, 0) := by decide +kernel
theorem s394_855 {L : Nat} {xs : Nat → Int32} {d x : Nat} {M : qxM} {st : List Value} {a0 a1 a2 a3 a4 a5 a7 a8 : Option Value} {z : Int32} : Rs L xs (d) 394 855 [a0, a1, a2, a3, a4, a5, some (.int z), a7, a8] st M x = Rs L xs (d) 394 857 [a0, a1, a2, a3, a4, a5, some (.int z), a7, a8] (.int z :: st) M x := Rs_next c394_855 rfl
theorem c394_857 : qx_code 394 857 = some (857, .ifCond .ne 15, 860, 872, 0, 0) := by decide +kernel
theorem s394_857 {L : Nat} {xs : Nat → Int32} {d x : Nat} {M : qxM} {st : List Value} {ls : qxL} {z : Int32} : Rs L xs (d) 394 857 ls (.int z :: st) M x = if z = 0 then Rs L xs (d) 394 860 ls st M x else Rs L xs (d) 394 872 ls st M x := Rs_ite c394_857 rfl
theorem c394_860 : qx_code 394 860 = some (860, .aload_n 3, 861, 0, 0, 0) := by decide +kernel
theorem s394_860 {L : Nat} {xs : Nat → Int32} {d x : Nat} {M : qxM} {st : List Value} {a0 a1 a2 a4 a5 a6 a7 a8 : Option Value} {z : Nat} : Rs L xs (d) 394 860 [a0, a1, a2, some (.ref z), a4, a5, a6, a7, a8] st M x = Rs L xs (d) 394 861 [a0, a1, a2, some (.ref z), a4, a5, a6, a7, a8] (.ref z :: st) M x := Rs_next c394_860 rfl
theorem c394_861 : qx_code 394 861 = some (861, .iconst 0, 862, 0, 0, 0) := by decide +kernel
theorem s394_861 {L : Nat} {xs : Nat → Int32} {d x : Nat} {M : qxM} {st : List Value} {ls : qxL} : Rs L xs (d) 394 861 ls st M x = Rs L xs (d) 394 862 ls (.int (nI 0) :: st) M x := Rs_next c394_861 rfl
theorem c394_862 : qx_code 394 862 = some (862, .laload, 863, 0, 0, 0) := by decide +kernel
theorem s394_862 {L : Nat} {xs : Nat → Int32} {d x : Nat} {M : qxM} {st : List Value} {ls : qxL} {t : Nat} {j : Int32} (hk : qx_kd t = 4) (hj : qx_ib j (qx_ln t) = true) : Rs L xs (d) 394 862 ls (.int j :: .ref t :: st) M x = Rs L xs (d) 394 863 ls (.long (M.2.1 j.toNatClampNeg) :: st) M x := by
  have h1 := qx_kd_row (k := 4) (by decide) hk
  exact Rs_unless (qx_ib_not hj) c394_862 (by unfold qx_act; dsimp only; rw [h1]; rfl)
theorem c394_863 : qx_code 394 863 = some (863, .iload 7, 865, 0, 0, 0) := by decide +kernel
theorem s394_863 {L : Nat} {xs : Nat → Int32} {d x : Nat} {M : qxM} {st : List Value} {a0 a1 a2 a3 a4 a5 a6 a8 : Option Value} {z : Int32} : Rs L xs (d) 394 863 [a0, a1, a2, a3, a4, a5, a6, some (.int z), a8] st M x = Rs L xs (d) 394 865 [a0, a1, a2, a3, a4, a5, a6, some (.int z), a8] (.int z :: st) M x := Rs_next c394_863 rfl
theorem c394_865 : qx_code 394 865 = some (865, .i2l, 866, 0, 0, 0) := by decide +kernel
theorem s394_865 {L : Nat} {xs : Nat → Int32} {d x : Nat} {M : qxM} {st : List Value} {ls : qxL} {z : Int32} : Rs L xs (d) 394 865 ls (.int z :: st) M x = Rs L xs (d) 394 866 ls (.long z.toInt64 :: st) M x := Rs_next c394_865 rfl
theorem c394_866 : qx_code 394 866 = some (866, .lcmp, 867, 0, 0, 0) := by decide +kernel
theorem s394_866 {L : Nat} {xs : Nat → Int32} {d x : Nat} {M : qxM} {st : List Value} {ls : qxL} {z y : Int64} : Rs L xs (d) 394 866 ls (.long y :: .long z :: st) M x = Rs L xs (d) 394 867 ls (.int (lg_cmp z y) :: st) M x := Rs_next c394_866 rfl
theorem c394_867 : qx_code 394 867 = some (867, .ifCond .eq 5, 870, 872, 0, 0) := by decide +kernel
theorem s394_867 {L : Nat} {xs : Nat → Int32} {d x : Nat} {M : qxM} {st : List Value} {ls : qxL} {z : Int32} : Rs L xs (d) 394 867 ls (.int z :: st) M x = if z = 0 then Rs L xs (d) 394 872 ls st M x else Rs L xs (d) 394 870 ls st M x := Rs_ite c394_867 rfl
theorem c394_872 : qx_code 394 872 = some (872, .goto 2874, 875, 3746, 0, 0) := by decide +kernel
theorem s394_872 {L : Nat} {xs : Nat → Int32} {d x : Nat} {M : qxM} {st : List Value} {ls : qxL} : Rs L xs (d) 394 872 ls st M x = Rs L xs (d) 394 3746 ls st M x := Rs_next c394_872 rfl
theorem c394_875 : qx_code 394 875 = some (875, .aload_n 1, 876, 0, 0, 0) := by decide +kernel
theorem s394_875 {L : Nat} {xs : Nat → Int32} {d x : Nat} {M : qxM} {st : List Value} {a0 a2 a3 a4 a5 a6 a7 a8 : Option Value} {z : Nat} : Rs L xs (d) 394 875 [a0, some (.ref z), a2, a3, a4, a5, a6, a7, a8] st M x = Rs L xs (d) 394 876 [a0, some (.ref z), a2, a3, a4, a5, a6, a7, a8] (.ref z :: st) M x := Rs_next c394_875 rfl
theorem c394_876 : qx_code 394 876 = some (876, .aload_n 0, 877, 0, 0, 0) := by decide +kernel
theorem s394_876 {L : Nat} {xs : Nat → Int32} {d x : Nat} {M : qxM} {st : List Value} {a1 a2 a3 a4 a5 a6 a7 a8 : Option Value} {z : Nat} : Rs L xs (d) 394 876 [some (.ref z), a1, a2, a3, a4, a5, a6, a7, a8] st M x = Rs L xs (d) 394 877 [some (.ref z), a1, a2, a3, a4, a5, a6, a7, a8] (.ref z :: st) M x := Rs_next c394_876 rfl
theorem c394_877 : qx_code 394 877 = some (877, .iload 5, 879, 0, 0, 0) := by decide +kernel
theorem s394_877 {L : Nat} {xs : Nat → Int32} {d x : Nat} {M : qxM} {st : List Value} {a0 a1 a2 a3 a4 a6 a7 a8 : Option Value} {z : Int32} : Rs L xs (d) 394 877 [a0, a1, a2, a3, a4, some (.int z), a6, a7, a8] st M x = Rs L xs (d) 394 879 [a0, a1, a2, a3, a4, some (.int z), a6, a7, a8] (.int z :: st) M x := Rs_next c394_877 rfl
theorem c394_879 : qx_code 394 879 = some (879, .iconst 1, 880, 0, 0, 0) := by decide +kernel
theorem s394_879 {L : Nat} {xs : Nat → Int32} {d x : Nat} {M : qxM} {st : List Value} {ls : qxL} : Rs L xs (d) 394 879 ls st M x = Rs L xs (d) 394 880 ls (.int (nI 1) :: st) M x := Rs_next c394_879 rfl
theorem c394_880 : qx_code 394 880 = some (880, .iadd, 881, 0, 0, 0) := by decide +kernel
theorem s394_880 {L : Nat} {xs : Nat → Int32} {d x : Nat} {M : qxM} {st : List Value} {ls : qxL} {z y : Int32} : Rs L xs (d) 394 880 ls (.int y :: .int z :: st) M x = Rs L xs (d) 394 881 ls (.int (z + y) :: st) M x := Rs_next c394_880 rfl
theorem c394_881 : qx_code 394 881 = some (881, .iaload, 882, 0, 0, 0) := by decide +kernel
theorem s394_881s {L : Nat} {xs : Nat → Int32} {d x : Nat} {M : qxM} {st : List Value} {ls : qxL} {j : Int32} (hj : qx_ib j L = true) : Rs L xs (d) 394 881 ls (.int j :: .ref 1 :: st) M x = Rs L xs (d) 394 882 ls (.int (xs j.toNatClampNeg) :: st) M x := Rs_unless (qx_ib_not hj) c394_881 rfl
theorem c394_882 : qx_code 394 882 = some (882, .aload_n 3, 883, 0, 0, 0) := by decide +kernel
theorem s394_882 {L : Nat} {xs : Nat → Int32} {d x : Nat} {M : qxM} {st : List Value} {a0 a1 a2 a4 a5 a6 a7 a8 : Option Value} {z : Nat} : Rs L xs (d) 394 882 [a0, a1, a2, some (.ref z), a4, a5, a6, a7, a8] st M x = Rs L xs (d) 394 883 [a0, a1, a2, some (.ref z), a4, a5, a6, a7, a8] (.ref z :: st) M x := Rs_next c394_882 rfl
theorem c394_883 : qx_code 394 883 = some (883, .invokestatic 252, 886, 342, 3, 865) := by decide +kernel
theorem s394_883 {L : Nat} {xs : Nat → Int32} {d x : Nat} {M : qxM} {st : List Value} {ls : qxL} {z0 : Nat} {z1 : Int32} {z2 : Nat} (hs : st.length ≤ 4) : Rs L xs (d + 1) 394 883 ls (.ref z2 :: .int z1 :: .ref z0 :: st) M x = (Rs L xs d 342 0 [some (.ref z0), some (.int z1), some (.ref z2), none] [] M 0).bind (qx_kn L xs (d + 1) 394 883 886 342 ls st x) := by
  have h1 : qx_act L xs (qx_rt 394) (883, .invokestatic 252, 886, 342, 3, 865) ls (.ref z2 :: .int z1 :: .ref z0 :: st) M = if 3 ≤ (.ref z2 :: .int z1 :: .ref z0 :: st).length ∧ st.length ≤ 4 then some (.inr (.inr (.inr (342, [.ref z0, .int z1, .ref z2], st)))) else none := rfl
  rw [if_pos ⟨by simp [List.length_cons]; try omega, hs⟩] at h1
  exact Rs_call c394_883 h1 rfl
theorem c394_886 : qx_code 394 886 = some (886, .istore 6, 888, 0, 0, 0) := by decide +kernel
theorem s394_886i {L : Nat} {xs : Nat → Int32} {d x : Nat} {M : qxM} {st : List Value} {a0 a1 a2 a3 a4 a6 a7 a8 : Option Value} {z : Int32} {y : Int32} : Rs L xs (d) 394 886 [a0, a1, a2, a3, a4, some (.int y), a6, a7, a8] (.int z :: st) M x = Rs L xs (d) 394 888 [a0, a1, a2, a3, a4, some (.int y), some (.int z), a7, a8] st M x := Rs_next c394_886 rfl
theorem c394_888 : qx_code 394 888 = some (888, .aload_n 2, 889, 0, 0, 0) := by decide +kernel
theorem s394_888 {L : Nat} {xs : Nat → Int32} {d x : Nat} {M : qxM} {st : List Value} {a0 a1 a3 a4 a5 a6 a7 a8 : Option Value} {z : Nat} : Rs L xs (d) 394 888 [a0, a1, some (.ref z), a3, a4, a5, a6, a7, a8] st M x = Rs L xs (d) 394 889 [a0, a1, some (.ref z), a3, a4, a5, a6, a7, a8] (.ref z :: st) M x := Rs_next c394_888 rfl
theorem c394_889 : qx_code 394 889 = some (889, .aload_n 0, 890, 0, 0, 0) := by decide +kernel
theorem s394_889 {L : Nat} {xs : Nat → Int32} {d x : Nat} {M : qxM} {st : List Value} {a1 a2 a3 a4 a5 a6 a7 a8 : Option Value} {z : Nat} : Rs L xs (d) 394 889 [some (.ref z), a1, a2, a3, a4, a5, a6, a7, a8] st M x = Rs L xs (d) 394 890 [some (.ref z), a1, a2, a3, a4, a5, a6, a7, a8] (.ref z :: st) M x := Rs_next c394_889 rfl
theorem c394_890 : qx_code 394 890 = some (890, .iload 5, 892, 0, 0, 0) := by decide +kernel
theorem s394_890 {L : Nat} {xs : Nat → Int32} {d x : Nat} {M : qxM} {st : List Value} {a0 a1 a2 a3 a4 a6 a7 a8 : Option Value} {z : Int32} : Rs L xs (d) 394 890 [a0, a1, a2, a3, a4, some (.int z), a6, a7, a8] st M x = Rs L xs (d) 394 892 [a0, a1, a2, a3, a4, some (.int z), a6, a7, a8] (.int z :: st) M x := Rs_next c394_890 rfl
theorem c394_892 : qx_code 394 892 = some (892, .iconst 1, 893, 0, 0, 0) := by decide +kernel
theorem s394_892 {L : Nat} {xs : Nat → Int32} {d x : Nat} {M : qxM} {st : List Value} {ls : qxL} : Rs L xs (d) 394 892 ls st M x = Rs L xs (d) 394 893 ls (.int (nI 1) :: st) M x := Rs_next c394_892 rfl
theorem c394_893 : qx_code 394 893 = some (893, .iadd, 894, 0, 0, 0) := by decide +kernel
theorem s394_893 {L : Nat} {xs : Nat → Int32} {d x : Nat} {M : qxM} {st : List Value} {ls : qxL} {z y : Int32} : Rs L xs (d) 394 893 ls (.int y :: .int z :: st) M x = Rs L xs (d) 394 894 ls (.int (z + y) :: st) M x := Rs_next c394_893 rfl
theorem c394_894 : qx_code 394 894 = some (894, .iaload, 895, 0, 0, 0) := by decide +kernel
theorem s394_894s {L : Nat} {xs : Nat → Int32} {d x : Nat} {M : qxM} {st : List Value} {ls : qxL} {j : Int32} (hj : qx_ib j L = true) : Rs L xs (d) 394 894 ls (.int j :: .ref 1 :: st) M x = Rs L xs (d) 394 895 ls (.int (xs j.toNatClampNeg) :: st) M x := Rs_unless (qx_ib_not hj) c394_894 rfl
theorem c394_895 : qx_code 394 895 = some (895, .invokevirtual 254, 898, 258, 2, 1854) := by decide +kernel
theorem s394_895 {L : Nat} {xs : Nat → Int32} {d x : Nat} {M : qxM} {st : List Value} {ls : qxL} {t : Nat} {z0 : Int32} (hk : qx_kd t = 18) (hs : st.length ≤ 4) : Rs L xs (d + 1) 394 895 ls (.int z0 :: .ref t :: st) M x = (Rs L xs d 258 0 [some (.ref t), some (.int z0)] [] M 0).bind (qx_kn L xs (d + 1) 394 895 898 258 ls st x) := by
  have h1 : qx_act L xs (qx_rt 394) (895, .invokevirtual 254, 898, 258, 2, 1854) ls (.int z0 :: .ref t :: st) M = if 2 ≤ (.int z0 :: .ref t :: st).length ∧ st.length ≤ 4 then some (.inr (.inr (.inr (258, [.ref t, .int z0], st)))) else none := rfl
  rw [if_pos ⟨by simp [List.length_cons]; try omega, hs⟩] at h1
  have h2 := qx_kd_obj (k := 8) (by decide) hk
  exact Rs_call c394_895 h1 (by rw [show qx_args 258 [.ref t, .int z0] = decide (qx_sh t = some (.inl 8)) from rfl]; exact decide_eq_true h2)
theorem c394_898 : qx_code 394 898 = some (898, .istore 7, 900, 0, 0, 0) := by decide +kernel
theorem s394_898i {L : Nat} {xs : Nat → Int32} {d x : Nat} {M : qxM} {st : List Value} {a0 a1 a2 a3 a4 a5 a7 a8 : Option Value} {z : Int32} {y : Int32} : Rs L xs (d) 394 898 [a0, a1, a2, a3, a4, a5, some (.int y), a7, a8] (.int z :: st) M x = Rs L xs (d) 394 900 [a0, a1, a2, a3, a4, a5, some (.int y), some (.int z), a8] st M x := Rs_next c394_898 rfl
theorem c394_900 : qx_code 394 900 = some (900, .aload_n 2, 901, 0, 0, 0) := by decide +kernel
theorem s394_900 {L : Nat} {xs : Nat → Int32} {d x : Nat} {M : qxM} {st : List Value} {a0 a1 a3 a4 a5 a6 a7 a8 : Option Value} {z : Nat} : Rs L xs (d) 394 900 [a0, a1, some (.ref z), a3, a4, a5, a6, a7, a8] st M x = Rs L xs (d) 394 901 [a0, a1, some (.ref z), a3, a4, a5, a6, a7, a8] (.ref z :: st) M x := Rs_next c394_900 rfl
theorem c394_901 : qx_code 394 901 = some (901, .invokevirtual 218, 904, 177, 1, 1613) := by decide +kernel
theorem s394_901 {L : Nat} {xs : Nat → Int32} {d x : Nat} {M : qxM} {st : List Value} {ls : qxL} {t : Nat} (hk : qx_kd t = 18) (hs : st.length ≤ 4) : Rs L xs (d + 1) 394 901 ls (.ref t :: st) M x = (Rs L xs d 177 0 [some (.ref t)] [] M 0).bind (qx_kn L xs (d + 1) 394 901 904 177 ls st x) := by
  have h1 : qx_act L xs (qx_rt 394) (901, .invokevirtual 218, 904, 177, 1, 1613) ls (.ref t :: st) M = if 1 ≤ (.ref t :: st).length ∧ st.length ≤ 4 then some (.inr (.inr (.inr (177, [.ref t], st)))) else none := rfl
  rw [if_pos ⟨by simp [List.length_cons]; try omega, hs⟩] at h1
  have h2 := qx_kd_obj (k := 8) (by decide) hk
  exact Rs_call c394_901 h1 (by rw [show qx_args 177 [.ref t] = decide (qx_sh t = some (.inl 8)) from rfl]; exact decide_eq_true h2)
theorem c394_904 : qx_code 394 904 = some (904, .iload 6, 906, 0, 0, 0) := by decide +kernel
theorem s394_904 {L : Nat} {xs : Nat → Int32} {d x : Nat} {M : qxM} {st : List Value} {a0 a1 a2 a3 a4 a5 a7 a8 : Option Value} {z : Int32} : Rs L xs (d) 394 904 [a0, a1, a2, a3, a4, a5, some (.int z), a7, a8] st M x = Rs L xs (d) 394 906 [a0, a1, a2, a3, a4, a5, some (.int z), a7, a8] (.int z :: st) M x := Rs_next c394_904 rfl
theorem c394_906 : qx_code 394 906 = some (906, .if_icmp .eq 5, 909, 911, 0, 0) := by decide +kernel
theorem s394_906 {L : Nat} {xs : Nat → Int32} {d x : Nat} {M : qxM} {st : List Value} {ls : qxL} {z y : Int32} : Rs L xs (d) 394 906 ls (.int y :: .int z :: st) M x = if z = y then Rs L xs (d) 394 911 ls st M x else Rs L xs (d) 394 909 ls st M x := Rs_ite c394_906 rfl
theorem c394_911 : qx_code 394 911 = some (911, .iload 6, 913, 0, 0, 0) := by decide +kernel
theorem s394_911 {L : Nat} {xs : Nat → Int32} {d x : Nat} {M : qxM} {st : List Value} {a0 a1 a2 a3 a4 a5 a7 a8 : Option Value} {z : Int32} : Rs L xs (d) 394 911 [a0, a1, a2, a3, a4, a5, some (.int z), a7, a8] st M x = Rs L xs (d) 394 913 [a0, a1, a2, a3, a4, a5, some (.int z), a7, a8] (.int z :: st) M x := Rs_next c394_911 rfl
theorem c394_913 : qx_code 394 913 = some (913, .ifCond .ne 15, 916, 928, 0, 0) := by decide +kernel
theorem s394_913 {L : Nat} {xs : Nat → Int32} {d x : Nat} {M : qxM} {st : List Value} {ls : qxL} {z : Int32} : Rs L xs (d) 394 913 ls (.int z :: st) M x = if z = 0 then Rs L xs (d) 394 916 ls st M x else Rs L xs (d) 394 928 ls st M x := Rs_ite c394_913 rfl
theorem c394_916 : qx_code 394 916 = some (916, .aload_n 3, 917, 0, 0, 0) := by decide +kernel
theorem s394_916 {L : Nat} {xs : Nat → Int32} {d x : Nat} {M : qxM} {st : List Value} {a0 a1 a2 a4 a5 a6 a7 a8 : Option Value} {z : Nat} : Rs L xs (d) 394 916 [a0, a1, a2, some (.ref z), a4, a5, a6, a7, a8] st M x = Rs L xs (d) 394 917 [a0, a1, a2, some (.ref z), a4, a5, a6, a7, a8] (.ref z :: st) M x := Rs_next c394_916 rfl
theorem c394_917 : qx_code 394 917 = some (917, .iconst 0, 918, 0, 0, 0) := by decide +kernel
theorem s394_917 {L : Nat} {xs : Nat → Int32} {d x : Nat} {M : qxM} {st : List Value} {ls : qxL} : Rs L xs (d) 394 917 ls st M x = Rs L xs (d) 394 918 ls (.int (nI 0) :: st) M x := Rs_next c394_917 rfl
theorem c394_918 : qx_code 394 918 = some (918, .laload, 919, 0, 0, 0) := by decide +kernel
theorem s394_918 {L : Nat} {xs : Nat → Int32} {d x : Nat} {M : qxM} {st : List Value} {ls : qxL} {t : Nat} {j : Int32} (hk : qx_kd t = 4) (hj : qx_ib j (qx_ln t) = true) : Rs L xs (d) 394 918 ls (.int j :: .ref t :: st) M x = Rs L xs (d) 394 919 ls (.long (M.2.1 j.toNatClampNeg) :: st) M x := by
  have h1 := qx_kd_row (k := 4) (by decide) hk
  exact Rs_unless (qx_ib_not hj) c394_918 (by unfold qx_act; dsimp only; rw [h1]; rfl)
theorem c394_919 : qx_code 394 919 = some (919, .iload 7, 921, 0, 0, 0) := by decide +kernel
theorem s394_919 {L : Nat} {xs : Nat → Int32} {d x : Nat} {M : qxM} {st : List Value} {a0 a1 a2 a3 a4 a5 a6 a8 : Option Value} {z : Int32} : Rs L xs (d) 394 919 [a0, a1, a2, a3, a4, a5, a6, some (.int z), a8] st M x = Rs L xs (d) 394 921 [a0, a1, a2, a3, a4, a5, a6, some (.int z), a8] (.int z :: st) M x := Rs_next c394_919 rfl
theorem c394_921 : qx_code 394 921 = some (921, .i2l, 922, 0, 0, 0) := by decide +kernel
theorem s394_921 {L : Nat} {xs : Nat → Int32} {d x : Nat} {M : qxM} {st : List Value} {ls : qxL} {z : Int32} : Rs L xs (d) 394 921 ls (.int z :: st) M x = Rs L xs (d) 394 922 ls (.long z.toInt64 :: st) M x := Rs_next c394_921 rfl
theorem c394_922 : qx_code 394 922 = some (922, .lcmp, 923, 0, 0, 0) := by decide +kernel
theorem s394_922 {L : Nat} {xs : Nat → Int32} {d x : Nat} {M : qxM} {st : List Value} {ls : qxL} {z y : Int64} : Rs L xs (d) 394 922 ls (.long y :: .long z :: st) M x = Rs L xs (d) 394 923 ls (.int (lg_cmp z y) :: st) M x := Rs_next c394_922 rfl
theorem c394_923 : qx_code 394 923 = some (923, .ifCond .eq 5, 926, 928, 0, 0) := by decide +kernel
theorem s394_923 {L : Nat} {xs : Nat → Int32} {d x : Nat} {M : qxM} {st : List Value} {ls : qxL} {z : Int32} : Rs L xs (d) 394 923 ls (.int z :: st) M x = if z = 0 then Rs L xs (d) 394 928 ls st M x else Rs L xs (d) 394 926 ls st M x := Rs_ite c394_923 rfl
theorem c394_928 : qx_code 394 928 = some (928, .goto 2818, 931, 3746, 0, 0) := by decide +kernel
theorem s394_928 {L : Nat} {xs : Nat → Int32} {d x : Nat} {M : qxM} {st : List Value} {ls : qxL} : Rs L xs (d) 394 928 ls st M x = Rs L xs (d) 394 3746 ls st M x := Rs_next c394_928 rfl
theorem c394_931 : qx_code 394 931 = some (931, .aload_n 1, 932, 0, 0, 0) := by decide +kernel
theorem s394_931 {L : Nat} {xs : Nat → Int32} {d x : Nat} {M : qxM} {st : List Value} {a0 a2 a3 a4 a5 a6 a7 a8 : Option Value} {z : Nat} : Rs L xs (d) 394 931 [a0, some (.ref z), a2, a3, a4, a5, a6, a7, a8] st M x = Rs L xs (d) 394 932 [a0, some (.ref z), a2, a3, a4, a5, a6, a7, a8] (.ref z :: st) M x := Rs_next c394_931 rfl
theorem c394_932 : qx_code 394 932 = some (932, .aload_n 0, 933, 0, 0, 0) := by decide +kernel
theorem s394_932 {L : Nat} {xs : Nat → Int32} {d x : Nat} {M : qxM} {st : List Value} {a1 a2 a3 a4 a5 a6 a7 a8 : Option Value} {z : Nat} : Rs L xs (d) 394 932 [some (.ref z), a1, a2, a3, a4, a5, a6, a7, a8] st M x = Rs L xs (d) 394 933 [some (.ref z), a1, a2, a3, a4, a5, a6, a7, a8] (.ref z :: st) M x := Rs_next c394_932 rfl
theorem c394_933 : qx_code 394 933 = some (933, .iload 5, 935, 0, 0, 0) := by decide +kernel
theorem s394_933 {L : Nat} {xs : Nat → Int32} {d x : Nat} {M : qxM} {st : List Value} {a0 a1 a2 a3 a4 a6 a7 a8 : Option Value} {z : Int32} : Rs L xs (d) 394 933 [a0, a1, a2, a3, a4, some (.int z), a6, a7, a8] st M x = Rs L xs (d) 394 935 [a0, a1, a2, a3, a4, some (.int z), a6, a7, a8] (.int z :: st) M x := Rs_next c394_933 rfl
theorem c394_935 : qx_code 394 935 = some (935, .iconst 1, 936, 0, 0, 0) := by decide +kernel
theorem s394_935 {L : Nat} {xs : Nat → Int32} {d x : Nat} {M : qxM} {st : List Value} {ls : qxL} : Rs L xs (d) 394 935 ls st M x = Rs L xs (d) 394 936 ls (.int (nI 1) :: st) M x := Rs_next c394_935 rfl
theorem c394_936 : qx_code 394 936 = some (936, .iadd, 937, 0, 0, 0) := by decide +kernel
theorem s394_936 {L : Nat} {xs : Nat → Int32} {d x : Nat} {M : qxM} {st : List Value} {ls : qxL} {z y : Int32} : Rs L xs (d) 394 936 ls (.int y :: .int z :: st) M x = Rs L xs (d) 394 937 ls (.int (z + y) :: st) M x := Rs_next c394_936 rfl
theorem c394_937 : qx_code 394 937 = some (937, .iaload, 938, 0, 0, 0) := by decide +kernel
theorem s394_937s {L : Nat} {xs : Nat → Int32} {d x : Nat} {M : qxM} {st : List Value} {ls : qxL} {j : Int32} (hj : qx_ib j L = true) : Rs L xs (d) 394 937 ls (.int j :: .ref 1 :: st) M x = Rs L xs (d) 394 938 ls (.int (xs j.toNatClampNeg) :: st) M x := Rs_unless (qx_ib_not hj) c394_937 rfl
theorem c394_938 : qx_code 394 938 = some (938, .aload_n 3, 939, 0, 0, 0) := by decide +kernel
theorem s394_938 {L : Nat} {xs : Nat → Int32} {d x : Nat} {M : qxM} {st : List Value} {a0 a1 a2 a4 a5 a6 a7 a8 : Option Value} {z : Nat} : Rs L xs (d) 394 938 [a0, a1, a2, some (.ref z), a4, a5, a6, a7, a8] st M x = Rs L xs (d) 394 939 [a0, a1, a2, some (.ref z), a4, a5, a6, a7, a8] (.ref z :: st) M x := Rs_next c394_938 rfl
theorem c394_939 : qx_code 394 939 = some (939, .invokestatic 255, 942, 343, 3, 877) := by decide +kernel
theorem s394_939 {L : Nat} {xs : Nat → Int32} {d x : Nat} {M : qxM} {st : List Value} {ls : qxL} {z0 : Nat} {z1 : Int32} {z2 : Nat} (hs : st.length ≤ 4) : Rs L xs (d + 1) 394 939 ls (.ref z2 :: .int z1 :: .ref z0 :: st) M x = (Rs L xs d 343 0 [some (.ref z0), some (.int z1), some (.ref z2), none] [] M 0).bind (qx_kn L xs (d + 1) 394 939 942 343 ls st x) := by
  have h1 : qx_act L xs (qx_rt 394) (939, .invokestatic 255, 942, 343, 3, 877) ls (.ref z2 :: .int z1 :: .ref z0 :: st) M = if 3 ≤ (.ref z2 :: .int z1 :: .ref z0 :: st).length ∧ st.length ≤ 4 then some (.inr (.inr (.inr (343, [.ref z0, .int z1, .ref z2], st)))) else none := rfl
  rw [if_pos ⟨by simp [List.length_cons]; try omega, hs⟩] at h1
  exact Rs_call c394_939 h1 rfl
theorem c394_942 : qx_code 394 942 = some (942, .istore 6, 944, 0, 0, 0) := by decide +kernel
theorem s394_942i {L : Nat} {xs : Nat → Int32} {d x : Nat} {M : qxM} {st : List Value} {a0 a1 a2 a3 a4 a6 a7 a8 : Option Value} {z : Int32} {y : Int32} : Rs L xs (d) 394 942 [a0, a1, a2, a3, a4, some (.int y), a6, a7, a8] (.int z :: st) M x = Rs L xs (d) 394 944 [a0, a1, a2, a3, a4, some (.int y), some (.int z), a7, a8] st M x := Rs_next c394_942 rfl
theorem c394_944 : qx_code 394 944 = some (944, .aload_n 2, 945, 0, 0, 0) := by decide +kernel
theorem s394_944 {L : Nat} {xs : Nat → Int32} {d x : Nat} {M : qxM} {st : List Value} {a0 a1 a3 a4 a5 a6 a7 a8 : Option Value} {z : Nat} : Rs L xs (d) 394 944 [a0, a1, some (.ref z), a3, a4, a5, a6, a7, a8] st M x = Rs L xs (d) 394 945 [a0, a1, some (.ref z), a3, a4, a5, a6, a7, a8] (.ref z :: st) M x := Rs_next c394_944 rfl
theorem c394_945 : qx_code 394 945 = some (945, .aload_n 0, 946, 0, 0, 0) := by decide +kernel
theorem s394_945 {L : Nat} {xs : Nat → Int32} {d x : Nat} {M : qxM} {st : List Value} {a1 a2 a3 a4 a5 a6 a7 a8 : Option Value} {z : Nat} : Rs L xs (d) 394 945 [some (.ref z), a1, a2, a3, a4, a5, a6, a7, a8] st M x = Rs L xs (d) 394 946 [some (.ref z), a1, a2, a3, a4, a5, a6, a7, a8] (.ref z :: st) M x := Rs_next c394_945 rfl
theorem c394_946 : qx_code 394 946 = some (946, .iload 5, 948, 0, 0, 0) := by decide +kernel
theorem s394_946 {L : Nat} {xs : Nat → Int32} {d x : Nat} {M : qxM} {st : List Value} {a0 a1 a2 a3 a4 a6 a7 a8 : Option Value} {z : Int32} : Rs L xs (d) 394 946 [a0, a1, a2, a3, a4, some (.int z), a6, a7, a8] st M x = Rs L xs (d) 394 948 [a0, a1, a2, a3, a4, some (.int z), a6, a7, a8] (.int z :: st) M x := Rs_next c394_946 rfl
theorem c394_948 : qx_code 394 948 = some (948, .iconst 1, 949, 0, 0, 0) := by decide +kernel
theorem s394_948 {L : Nat} {xs : Nat → Int32} {d x : Nat} {M : qxM} {st : List Value} {ls : qxL} : Rs L xs (d) 394 948 ls st M x = Rs L xs (d) 394 949 ls (.int (nI 1) :: st) M x := Rs_next c394_948 rfl
theorem c394_949 : qx_code 394 949 = some (949, .iadd, 950, 0, 0, 0) := by decide +kernel
theorem s394_949 {L : Nat} {xs : Nat → Int32} {d x : Nat} {M : qxM} {st : List Value} {ls : qxL} {z y : Int32} : Rs L xs (d) 394 949 ls (.int y :: .int z :: st) M x = Rs L xs (d) 394 950 ls (.int (z + y) :: st) M x := Rs_next c394_949 rfl
theorem c394_950 : qx_code 394 950 = some (950, .iaload, 951, 0, 0, 0) := by decide +kernel
theorem s394_950s {L : Nat} {xs : Nat → Int32} {d x : Nat} {M : qxM} {st : List Value} {ls : qxL} {j : Int32} (hj : qx_ib j L = true) : Rs L xs (d) 394 950 ls (.int j :: .ref 1 :: st) M x = Rs L xs (d) 394 951 ls (.int (xs j.toNatClampNeg) :: st) M x := Rs_unless (qx_ib_not hj) c394_950 rfl
theorem c394_951 : qx_code 394 951 = some (951, .invokevirtual 257, 954, 259, 2, 1862) := by decide +kernel
theorem s394_951 {L : Nat} {xs : Nat → Int32} {d x : Nat} {M : qxM} {st : List Value} {ls : qxL} {t : Nat} {z0 : Int32} (hk : qx_kd t = 18) (hs : st.length ≤ 4) : Rs L xs (d + 1) 394 951 ls (.int z0 :: .ref t :: st) M x = (Rs L xs d 259 0 [some (.ref t), some (.int z0)] [] M 0).bind (qx_kn L xs (d + 1) 394 951 954 259 ls st x) := by
  have h1 : qx_act L xs (qx_rt 394) (951, .invokevirtual 257, 954, 259, 2, 1862) ls (.int z0 :: .ref t :: st) M = if 2 ≤ (.int z0 :: .ref t :: st).length ∧ st.length ≤ 4 then some (.inr (.inr (.inr (259, [.ref t, .int z0], st)))) else none := rfl
  rw [if_pos ⟨by simp [List.length_cons]; try omega, hs⟩] at h1
  have h2 := qx_kd_obj (k := 8) (by decide) hk
  exact Rs_call c394_951 h1 (by rw [show qx_args 259 [.ref t, .int z0] = decide (qx_sh t = some (.inl 8)) from rfl]; exact decide_eq_true h2)
theorem c394_954 : qx_code 394 954 = some (954, .istore 7, 956, 0, 0, 0) := by decide +kernel
theorem s394_954i {L : Nat} {xs : Nat → Int32} {d x : Nat} {M : qxM} {st : List Value} {a0 a1 a2 a3 a4 a5 a7 a8 : Option Value} {z : Int32} {y : Int32} : Rs L xs (d) 394 954 [a0, a1, a2, a3, a4, a5, some (.int y), a7, a8] (.int z :: st) M x = Rs L xs (d) 394 956 [a0, a1, a2, a3, a4, a5, some (.int y), some (.int z), a8] st M x := Rs_next c394_954 rfl
theorem c394_956 : qx_code 394 956 = some (956, .aload_n 2, 957, 0, 0, 0) := by decide +kernel
theorem s394_956 {L : Nat} {xs : Nat → Int32} {d x : Nat} {M : qxM} {st : List Value} {a0 a1 a3 a4 a5 a6 a7 a8 : Option Value} {z : Nat} : Rs L xs (d) 394 956 [a0, a1, some (.ref z), a3, a4, a5, a6, a7, a8] st M x = Rs L xs (d) 394 957 [a0, a1, some (.ref z), a3, a4, a5, a6, a7, a8] (.ref z :: st) M x := Rs_next c394_956 rfl
theorem c394_957 : qx_code 394 957 = some (957, .invokevirtual 218, 960, 177, 1, 1613) := by decide +kernel
theorem s394_957 {L : Nat} {xs : Nat → Int32} {d x : Nat} {M : qxM} {st : List Value} {ls : qxL} {t : Nat} (hk : qx_kd t = 18) (hs : st.length ≤ 4) : Rs L xs (d + 1) 394 957 ls (.ref t :: st) M x = (Rs L xs d 177 0 [some (.ref t)] [] M 0).bind (qx_kn L xs (d + 1) 394 957 960 177 ls st x) := by
  have h1 : qx_act L xs (qx_rt 394) (957, .invokevirtual 218, 960, 177, 1, 1613) ls (.ref t :: st) M = if 1 ≤ (.ref t :: st).length ∧ st.length ≤ 4 then some (.inr (.inr (.inr (177, [.ref t], st)))) else none := rfl
  rw [if_pos ⟨by simp [List.length_cons]; try omega, hs⟩] at h1
  have h2 := qx_kd_obj (k := 8) (by decide) hk
  exact Rs_call c394_957 h1 (by rw [show qx_args 177 [.ref t] = decide (qx_sh t = some (.inl 8)) from rfl]; exact decide_eq_true h2)
theorem c394_960 : qx_code 394 960 = some (960, .iload 6, 962, 0, 0, 0) := by decide +kernel
theorem s394_960 {L : Nat} {xs : Nat → Int32} {d x : Nat} {M : qxM} {st : List Value} {a0 a1 a2 a3 a4 a5 a7 a8 : Option Value} {z : Int32} : Rs L xs (d) 394 960 [a0, a1, a2, a3, a4, a5, some (.int z), a7, a8] st M x = Rs L xs (d) 394 962 [a0, a1, a2, a3, a4, a5, some (.int z), a7, a8] (.int z :: st) M x := Rs_next c394_960 rfl
theorem c394_962 : qx_code 394 962 = some (962, .if_icmp .eq 5, 965, 967, 0, 0) := by decide +kernel
theorem s394_962 {L : Nat} {xs : Nat → Int32} {d x : Nat} {M : qxM} {st : List Value} {ls : qxL} {z y : Int32} : Rs L xs (d) 394 962 ls (.int y :: .int z :: st) M x = if z = y then Rs L xs (d) 394 967 ls st M x else Rs L xs (d) 394 965 ls st M x := Rs_ite c394_962 rfl
theorem c394_967 : qx_code 394 967 = some (967, .iload 6, 969, 0, 0, 0) := by decide +kernel
theorem s394_967 {L : Nat} {xs : Nat → Int32} {d x : Nat} {M : qxM} {st : List Value} {a0 a1 a2 a3 a4 a5 a7 a8 : Option Value} {z : Int32} : Rs L xs (d) 394 967 [a0, a1, a2, a3, a4, a5, some (.int z), a7, a8] st M x = Rs L xs (d) 394 969 [a0, a1, a2, a3, a4, a5, some (.int z), a7, a8] (.int z :: st) M x := Rs_next c394_967 rfl
theorem c394_969 : qx_code 394 969 = some (969, .ifCond .ne 15, 972, 984, 0, 0) := by decide +kernel
theorem s394_969 {L : Nat} {xs : Nat → Int32} {d x : Nat} {M : qxM} {st : List Value} {ls : qxL} {z : Int32} : Rs L xs (d) 394 969 ls (.int z :: st) M x = if z = 0 then Rs L xs (d) 394 972 ls st M x else Rs L xs (d) 394 984 ls st M x := Rs_ite c394_969 rfl
theorem c394_972 : qx_code 394 972 = some (972, .aload_n 3, 973, 0, 0, 0) := by decide +kernel
theorem s394_972 {L : Nat} {xs : Nat → Int32} {d x : Nat} {M : qxM} {st : List Value} {a0 a1 a2 a4 a5 a6 a7 a8 : Option Value} {z : Nat} : Rs L xs (d) 394 972 [a0, a1, a2, some (.ref z), a4, a5, a6, a7, a8] st M x = Rs L xs (d) 394 973 [a0, a1, a2, some (.ref z), a4, a5, a6, a7, a8] (.ref z :: st) M x := Rs_next c394_972 rfl
theorem c394_973 : qx_code 394 973 = some (973, .iconst 0, 974, 0, 0, 0) := by decide +kernel
theorem s394_973 {L : Nat} {xs : Nat → Int32} {d x : Nat} {M : qxM} {st : List Value} {ls : qxL} : Rs L xs (d) 394 973 ls st M x = Rs L xs (d) 394 974 ls (.int (nI 0) :: st) M x := Rs_next c394_973 rfl
theorem c394_974 : qx_code 394 974 = some (974, .laload, 975, 0, 0, 0) := by decide +kernel
theorem s394_974 {L : Nat} {xs : Nat → Int32} {d x : Nat} {M : qxM} {st : List Value} {ls : qxL} {t : Nat} {j : Int32} (hk : qx_kd t = 4) (hj : qx_ib j (qx_ln t) = true) : Rs L xs (d) 394 974 ls (.int j :: .ref t :: st) M x = Rs L xs (d) 394 975 ls (.long (M.2.1 j.toNatClampNeg) :: st) M x := by
  have h1 := qx_kd_row (k := 4) (by decide) hk
  exact Rs_unless (qx_ib_not hj) c394_974 (by unfold qx_act; dsimp only; rw [h1]; rfl)
theorem c394_975 : qx_code 394 975 = some (975, .iload 7, 977, 0, 0, 0) := by decide +kernel
theorem s394_975 {L : Nat} {xs : Nat → Int32} {d x : Nat} {M : qxM} {st : List Value} {a0 a1 a2 a3 a4 a5 a6 a8 : Option Value} {z : Int32} : Rs L xs (d) 394 975 [a0, a1, a2, a3, a4, a5, a6, some (.int z), a8] st M x = Rs L xs (d) 394 977 [a0, a1, a2, a3, a4, a5, a6, some (.int z), a8] (.int z :: st) M x := Rs_next c394_975 rfl
theorem c394_977 : qx_code 394 977 = some (977, .i2l, 978, 0, 0, 0) := by decide +kernel
theorem s394_977 {L : Nat} {xs : Nat → Int32} {d x : Nat} {M : qxM} {st : List Value} {ls : qxL} {z : Int32} : Rs L xs (d) 394 977 ls (.int z :: st) M x = Rs L xs (d) 394 978 ls (.long z.toInt64 :: st) M x := Rs_next c394_977 rfl
theorem c394_978 : qx_code 394 978 = some (978, .lcmp, 979, 0, 0, 0) := by decide +kernel
theorem s394_978 {L : Nat} {xs : Nat → Int32} {d x : Nat} {M : qxM} {st : List Value} {ls : qxL} {z y : Int64} : Rs L xs (d) 394 978 ls (.long y :: .long z :: st) M x = Rs L xs (d) 394 979 ls (.int (lg_cmp z y) :: st) M x := Rs_next c394_978 rfl
theorem c394_979 : qx_code 394 979 = some (979, .ifCond .eq 5, 982, 984, 0, 0) := by decide +kernel
theorem s394_979 {L : Nat} {xs : Nat → Int32} {d x : Nat} {M : qxM} {st : List Value} {ls : qxL} {z : Int32} : Rs L xs (d) 394 979 ls (.int z :: st) M x = if z = 0 then Rs L xs (d) 394 984 ls st M x else Rs L xs (d) 394 982 ls st M x := Rs_ite c394_979 rfl
theorem c394_984 : qx_code 394 984 = some (984, .goto 2762, 987, 3746, 0, 0) := by decide +kernel
theorem s394_984 {L : Nat} {xs : Nat → Int32} {d x : Nat} {M : qxM} {st : List Value} {ls : qxL} : Rs L xs (d) 394 984 ls st M x = Rs L xs (d) 394 3746 ls st M x := Rs_next c394_984 rfl
theorem c394_987 : qx_code 394 987 = some (987, .aload_n 1, 988, 0, 0, 0) := by decide +kernel
theorem s394_987 {L : Nat} {xs : Nat → Int32} {d x : Nat} {M : qxM} {st : List Value} {a0 a2 a3 a4 a5 a6 a7 a8 : Option Value} {z : Nat} : Rs L xs (d) 394 987 [a0, some (.ref z), a2, a3, a4, a5, a6, a7, a8] st M x = Rs L xs (d) 394 988 [a0, some (.ref z), a2, a3, a4, a5, a6, a7, a8] (.ref z :: st) M x := Rs_next c394_987 rfl
theorem c394_988 : qx_code 394 988 = some (988, .aload_n 0, 989, 0, 0, 0) := by decide +kernel
theorem s394_988 {L : Nat} {xs : Nat → Int32} {d x : Nat} {M : qxM} {st : List Value} {a1 a2 a3 a4 a5 a6 a7 a8 : Option Value} {z : Nat} : Rs L xs (d) 394 988 [some (.ref z), a1, a2, a3, a4, a5, a6, a7, a8] st M x = Rs L xs (d) 394 989 [some (.ref z), a1, a2, a3, a4, a5, a6, a7, a8] (.ref z :: st) M x := Rs_next c394_988 rfl
theorem c394_989 : qx_code 394 989 = some (989, .iload 5, 991, 0, 0, 0) := by decide +kernel
theorem s394_989 {L : Nat} {xs : Nat → Int32} {d x : Nat} {M : qxM} {st : List Value} {a0 a1 a2 a3 a4 a6 a7 a8 : Option Value} {z : Int32} : Rs L xs (d) 394 989 [a0, a1, a2, a3, a4, some (.int z), a6, a7, a8] st M x = Rs L xs (d) 394 991 [a0, a1, a2, a3, a4, some (.int z), a6, a7, a8] (.int z :: st) M x := Rs_next c394_989 rfl
theorem c394_991 : qx_code 394 991 = some (991, .iconst 1, 992, 0, 0, 0) := by decide +kernel
theorem s394_991 {L : Nat} {xs : Nat → Int32} {d x : Nat} {M : qxM} {st : List Value} {ls : qxL} : Rs L xs (d) 394 991 ls st M x = Rs L xs (d) 394 992 ls (.int (nI 1) :: st) M x := Rs_next c394_991 rfl
theorem c394_992 : qx_code 394 992 = some (992, .iadd, 993, 0, 0, 0) := by decide +kernel
theorem s394_992 {L : Nat} {xs : Nat → Int32} {d x : Nat} {M : qxM} {st : List Value} {ls : qxL} {z y : Int32} : Rs L xs (d) 394 992 ls (.int y :: .int z :: st) M x = Rs L xs (d) 394 993 ls (.int (z + y) :: st) M x := Rs_next c394_992 rfl
theorem c394_993 : qx_code 394 993 = some (993, .iaload, 994, 0, 0, 0) := by decide +kernel
theorem s394_993s {L : Nat} {xs : Nat → Int32} {d x : Nat} {M : qxM} {st : List Value} {ls : qxL} {j : Int32} (hj : qx_ib j L = true) : Rs L xs (d) 394 993 ls (.int j :: .ref 1 :: st) M x = Rs L xs (d) 394 994 ls (.int (xs j.toNatClampNeg) :: st) M x := Rs_unless (qx_ib_not hj) c394_993 rfl
theorem c394_994 : qx_code 394 994 = some (994, .aload_n 3, 995, 0, 0, 0) := by decide +kernel
theorem s394_994 {L : Nat} {xs : Nat → Int32} {d x : Nat} {M : qxM} {st : List Value} {a0 a1 a2 a4 a5 a6 a7 a8 : Option Value} {z : Nat} : Rs L xs (d) 394 994 [a0, a1, a2, some (.ref z), a4, a5, a6, a7, a8] st M x = Rs L xs (d) 394 995 [a0, a1, a2, some (.ref z), a4, a5, a6, a7, a8] (.ref z :: st) M x := Rs_next c394_994 rfl
theorem c394_995 : qx_code 394 995 = some (995, .invokestatic 258, 998, 344, 3, 884) := by decide +kernel
theorem s394_995 {L : Nat} {xs : Nat → Int32} {d x : Nat} {M : qxM} {st : List Value} {ls : qxL} {z0 : Nat} {z1 : Int32} {z2 : Nat} (hs : st.length ≤ 4) : Rs L xs (d + 1) 394 995 ls (.ref z2 :: .int z1 :: .ref z0 :: st) M x = (Rs L xs d 344 0 [some (.ref z0), some (.int z1), some (.ref z2), none] [] M 0).bind (qx_kn L xs (d + 1) 394 995 998 344 ls st x) := by
  have h1 : qx_act L xs (qx_rt 394) (995, .invokestatic 258, 998, 344, 3, 884) ls (.ref z2 :: .int z1 :: .ref z0 :: st) M = if 3 ≤ (.ref z2 :: .int z1 :: .ref z0 :: st).length ∧ st.length ≤ 4 then some (.inr (.inr (.inr (344, [.ref z0, .int z1, .ref z2], st)))) else none := rfl
  rw [if_pos ⟨by simp [List.length_cons]; try omega, hs⟩] at h1
  exact Rs_call c394_995 h1 rfl
theorem c394_998 : qx_code 394 998 = some (998, .istore 6, 1000, 0, 0, 0) := by decide +kernel
theorem s394_998i {L : Nat} {xs : Nat → Int32} {d x : Nat} {M : qxM} {st : List Value} {a0 a1 a2 a3 a4 a6 a7 a8 : Option Value} {z : Int32} {y : Int32} : Rs L xs (d) 394 998 [a0, a1, a2, a3, a4, some (.int y), a6, a7, a8] (.int z :: st) M x = Rs L xs (d) 394 1000 [a0, a1, a2, a3, a4, some (.int y), some (.int z), a7, a8] st M x := Rs_next c394_998 rfl
theorem c394_1000 : qx_code 394 1000 = some (1000, .aload_n 2, 1001, 0, 0, 0) := by decide +kernel
theorem s394_1000 {L : Nat} {xs : Nat → Int32} {d x : Nat} {M : qxM} {st : List Value} {a0 a1 a3 a4 a5 a6 a7 a8 : Option Value} {z : Nat} : Rs L xs (d) 394 1000 [a0, a1, some (.ref z), a3, a4, a5, a6, a7, a8] st M x = Rs L xs (d) 394 1001 [a0, a1, some (.ref z), a3, a4, a5, a6, a7, a8] (.ref z :: st) M x := Rs_next c394_1000 rfl
theorem c394_1001 : qx_code 394 1001 = some (1001, .aload_n 0, 1002, 0, 0, 0) := by decide +kernel
theorem s394_1001 {L : Nat} {xs : Nat → Int32} {d x : Nat} {M : qxM} {st : List Value} {a1 a2 a3 a4 a5 a6 a7 a8 : Option Value} {z : Nat} : Rs L xs (d) 394 1001 [some (.ref z), a1, a2, a3, a4, a5, a6, a7, a8] st M x = Rs L xs (d) 394 1002 [some (.ref z), a1, a2, a3, a4, a5, a6, a7, a8] (.ref z :: st) M x := Rs_next c394_1001 rfl
theorem c394_1002 : qx_code 394 1002 = some (1002, .iload 5, 1004, 0, 0, 0) := by decide +kernel
theorem s394_1002 {L : Nat} {xs : Nat → Int32} {d x : Nat} {M : qxM} {st : List Value} {a0 a1 a2 a3 a4 a6 a7 a8 : Option Value} {z : Int32} : Rs L xs (d) 394 1002 [a0, a1, a2, a3, a4, some (.int z), a6, a7, a8] st M x = Rs L xs (d) 394 1004 [a0, a1, a2, a3, a4, some (.int z), a6, a7, a8] (.int z :: st) M x := Rs_next c394_1002 rfl
theorem c394_1004 : qx_code 394 1004 = some (1004, .iconst 1, 1005, 0, 0, 0) := by decide +kernel
theorem s394_1004 {L : Nat} {xs : Nat → Int32} {d x : Nat} {M : qxM} {st : List Value} {ls : qxL} : Rs L xs (d) 394 1004 ls st M x = Rs L xs (d) 394 1005 ls (.int (nI 1) :: st) M x := Rs_next c394_1004 rfl
theorem c394_1005 : qx_code 394 1005 = some (1005, .iadd, 1006, 0, 0, 0) := by decide +kernel
theorem s394_1005 {L : Nat} {xs : Nat → Int32} {d x : Nat} {M : qxM} {st : List Value} {ls : qxL} {z y : Int32} : Rs L xs (d) 394 1005 ls (.int y :: .int z :: st) M x = Rs L xs (d) 394 1006 ls (.int (z + y) :: st) M x := Rs_next c394_1005 rfl
theorem c394_1006 : qx_code 394 1006 = some (1006, .iaload, 1007, 0, 0, 0) := by decide +kernel
theorem s394_1006s {L : Nat} {xs : Nat → Int32} {d x : Nat} {M : qxM} {st : List Value} {ls : qxL} {j : Int32} (hj : qx_ib j L = true) : Rs L xs (d) 394 1006 ls (.int j :: .ref 1 :: st) M x = Rs L xs (d) 394 1007 ls (.int (xs j.toNatClampNeg) :: st) M x := Rs_unless (qx_ib_not hj) c394_1006 rfl
theorem c394_1007 : qx_code 394 1007 = some (1007, .invokevirtual 260, 1010, 260, 2, 1866) := by decide +kernel
theorem s394_1007 {L : Nat} {xs : Nat → Int32} {d x : Nat} {M : qxM} {st : List Value} {ls : qxL} {t : Nat} {z0 : Int32} (hk : qx_kd t = 18) (hs : st.length ≤ 4) : Rs L xs (d + 1) 394 1007 ls (.int z0 :: .ref t :: st) M x = (Rs L xs d 260 0 [some (.ref t), some (.int z0)] [] M 0).bind (qx_kn L xs (d + 1) 394 1007 1010 260 ls st x) := by
  have h1 : qx_act L xs (qx_rt 394) (1007, .invokevirtual 260, 1010, 260, 2, 1866) ls (.int z0 :: .ref t :: st) M = if 2 ≤ (.int z0 :: .ref t :: st).length ∧ st.length ≤ 4 then some (.inr (.inr (.inr (260, [.ref t, .int z0], st)))) else none := rfl
  rw [if_pos ⟨by simp [List.length_cons]; try omega, hs⟩] at h1
  have h2 := qx_kd_obj (k := 8) (by decide) hk
  exact Rs_call c394_1007 h1 (by rw [show qx_args 260 [.ref t, .int z0] = decide (qx_sh t = some (.inl 8)) from rfl]; exact decide_eq_true h2)
theorem c394_1010 : qx_code 394 1010 = some (1010, .istore 7, 1012, 0, 0, 0) := by decide +kernel
theorem s394_1010i {L : Nat} {xs : Nat → Int32} {d x : Nat} {M : qxM} {st : List Value} {a0 a1 a2 a3 a4 a5 a7 a8 : Option Value} {z : Int32} {y : Int32} : Rs L xs (d) 394 1010 [a0, a1, a2, a3, a4, a5, some (.int y), a7, a8] (.int z :: st) M x = Rs L xs (d) 394 1012 [a0, a1, a2, a3, a4, a5, some (.int y), some (.int z), a8] st M x := Rs_next c394_1010 rfl
theorem c394_1012 : qx_code 394 1012 = some (1012, .aload_n 2, 1013, 0, 0, 0) := by decide +kernel
theorem s394_1012 {L : Nat} {xs : Nat → Int32} {d x : Nat} {M : qxM} {st : List Value} {a0 a1 a3 a4 a5 a6 a7 a8 : Option Value} {z : Nat} : Rs L xs (d) 394 1012 [a0, a1, some (.ref z), a3, a4, a5, a6, a7, a8] st M x = Rs L xs (d) 394 1013 [a0, a1, some (.ref z), a3, a4, a5, a6, a7, a8] (.ref z :: st) M x := Rs_next c394_1012 rfl
theorem c394_1013 : qx_code 394 1013 = some (1013, .invokevirtual 218, 1016, 177, 1, 1613) := by decide +kernel
theorem s394_1013 {L : Nat} {xs : Nat → Int32} {d x : Nat} {M : qxM} {st : List Value} {ls : qxL} {t : Nat} (hk : qx_kd t = 18) (hs : st.length ≤ 4) : Rs L xs (d + 1) 394 1013 ls (.ref t :: st) M x = (Rs L xs d 177 0 [some (.ref t)] [] M 0).bind (qx_kn L xs (d + 1) 394 1013 1016 177 ls st x) := by
  have h1 : qx_act L xs (qx_rt 394) (1013, .invokevirtual 218, 1016, 177, 1, 1613) ls (.ref t :: st) M = if 1 ≤ (.ref t :: st).length ∧ st.length ≤ 4 then some (.inr (.inr (.inr (177, [.ref t], st)))) else none := rfl
  rw [if_pos ⟨by simp [List.length_cons]; try omega, hs⟩] at h1
  have h2 := qx_kd_obj (k := 8) (by decide) hk
  exact Rs_call c394_1013 h1 (by rw [show qx_args 177 [.ref t] = decide (qx_sh t = some (.inl 8)) from rfl]; exact decide_eq_true h2)
theorem c394_1016 : qx_code 394 1016 = some (1016, .iload 6, 1018, 0, 0, 0) := by decide +kernel
theorem s394_1016 {L : Nat} {xs : Nat → Int32} {d x : Nat} {M : qxM} {st : List Value} {a0 a1 a2 a3 a4 a5 a7 a8 : Option Value} {z : Int32} : Rs L xs (d) 394 1016 [a0, a1, a2, a3, a4, a5, some (.int z), a7, a8] st M x = Rs L xs (d) 394 1018 [a0, a1, a2, a3, a4, a5, some (.int z), a7, a8] (.int z :: st) M x := Rs_next c394_1016 rfl
theorem c394_1018 : qx_code 394 1018 = some (1018, .if_icmp .eq 5, 1021, 1023, 0, 0) := by decide +kernel
theorem s394_1018 {L : Nat} {xs : Nat → Int32} {d x : Nat} {M : qxM} {st : List Value} {ls : qxL} {z y : Int32} : Rs L xs (d) 394 1018 ls (.int y :: .int z :: st) M x = if z = y then Rs L xs (d) 394 1023 ls st M x else Rs L xs (d) 394 1021 ls st M x := Rs_ite c394_1018 rfl
theorem c394_1023 : qx_code 394 1023 = some (1023, .iload 6, 1025, 0, 0, 0) := by decide +kernel
theorem s394_1023 {L : Nat} {xs : Nat → Int32} {d x : Nat} {M : qxM} {st : List Value} {a0 a1 a2 a3 a4 a5 a7 a8 : Option Value} {z : Int32} : Rs L xs (d) 394 1023 [a0, a1, a2, a3, a4, a5, some (.int z), a7, a8] st M x = Rs L xs (d) 394 1025 [a0, a1, a2, a3, a4, a5, some (.int z), a7, a8] (.int z :: st) M x := Rs_next c394_1023 rfl
theorem c394_1025 : qx_code 394 1025 = some (1025, .ifCond .ne 15, 1028, 1040, 0, 0) := by decide +kernel
theorem s394_1025 {L : Nat} {xs : Nat → Int32} {d x : Nat} {M : qxM} {st : List Value} {ls : qxL} {z : Int32} : Rs L xs (d) 394 1025 ls (.int z :: st) M x = if z = 0 then Rs L xs (d) 394 1028 ls st M x else Rs L xs (d) 394 1040 ls st M x := Rs_ite c394_1025 rfl
theorem c394_1028 : qx_code 394 1028 = some (1028, .aload_n 3, 1029, 0, 0, 0) := by decide +kernel
theorem s394_1028 {L : Nat} {xs : Nat → Int32} {d x : Nat} {M : qxM} {st : List Value} {a0 a1 a2 a4 a5 a6 a7 a8 : Option Value} {z : Nat} : Rs L xs (d) 394 1028 [a0, a1, a2, some (.ref z), a4, a5, a6, a7, a8] st M x = Rs L xs (d) 394 1029 [a0, a1, a2, some (.ref z), a4, a5, a6, a7, a8] (.ref z :: st) M x := Rs_next c394_1028 rfl
theorem c394_1029 : qx_code 394 1029 = some (1029, .iconst 0, 1030, 0, 0, 0) := by decide +kernel
theorem s394_1029 {L : Nat} {xs : Nat → Int32} {d x : Nat} {M : qxM} {st : List Value} {ls : qxL} : Rs L xs (d) 394 1029 ls st M x = Rs L xs (d) 394 1030 ls (.int (nI 0) :: st) M x := Rs_next c394_1029 rfl
theorem c394_1030 : qx_code 394 1030 = some (1030, .laload, 1031, 0, 0, 0) := by decide +kernel
theorem s394_1030 {L : Nat} {xs : Nat → Int32} {d x : Nat} {M : qxM} {st : List Value} {ls : qxL} {t : Nat} {j : Int32} (hk : qx_kd t = 4) (hj : qx_ib j (qx_ln t) = true) : Rs L xs (d) 394 1030 ls (.int j :: .ref t :: st) M x = Rs L xs (d) 394 1031 ls (.long (M.2.1 j.toNatClampNeg) :: st) M x := by
  have h1 := qx_kd_row (k := 4) (by decide) hk
  exact Rs_unless (qx_ib_not hj) c394_1030 (by unfold qx_act; dsimp only; rw [h1]; rfl)
theorem c394_1031 : qx_code 394 1031 = some (1031, .iload 7, 1033, 0, 0, 0) := by decide +kernel
theorem s394_1031 {L : Nat} {xs : Nat → Int32} {d x : Nat} {M : qxM} {st : List Value} {a0 a1 a2 a3 a4 a5 a6 a8 : Option Value} {z : Int32} : Rs L xs (d) 394 1031 [a0, a1, a2, a3, a4, a5, a6, some (.int z), a8] st M x = Rs L xs (d) 394 1033 [a0, a1, a2, a3, a4, a5, a6, some (.int z), a8] (.int z :: st) M x := Rs_next c394_1031 rfl
theorem c394_1033 : qx_code 394 1033 = some (1033, .i2l, 1034, 0, 0, 0) := by decide +kernel
theorem s394_1033 {L : Nat} {xs : Nat → Int32} {d x : Nat} {M : qxM} {st : List Value} {ls : qxL} {z : Int32} : Rs L xs (d) 394 1033 ls (.int z :: st) M x = Rs L xs (d) 394 1034 ls (.long z.toInt64 :: st) M x := Rs_next c394_1033 rfl
theorem c394_1034 : qx_code 394 1034 = some (1034, .lcmp, 1035, 0, 0, 0) := by decide +kernel
theorem s394_1034 {L : Nat} {xs : Nat → Int32} {d x : Nat} {M : qxM} {st : List Value} {ls : qxL} {z y : Int64} : Rs L xs (d) 394 1034 ls (.long y :: .long z :: st) M x = Rs L xs (d) 394 1035 ls (.int (lg_cmp z y) :: st) M x := Rs_next c394_1034 rfl
theorem c394_1035 : qx_code 394 1035 = some (1035, .ifCond .eq 5, 1038, 1040, 0, 0) := by decide +kernel
theorem s394_1035 {L : Nat} {xs : Nat → Int32} {d x : Nat} {M : qxM} {st : List Value} {ls : qxL} {z : Int32} : Rs L xs (d) 394 1035 ls (.int z :: st) M x = if z = 0 then Rs L xs (d) 394 1040 ls st M x else Rs L xs (d) 394 1038 ls st M x := Rs_ite c394_1035 rfl
theorem c394_1040 : qx_code 394 1040 = some (1040, .goto 2706, 1043, 3746, 0, 0) := by decide +kernel
theorem s394_1040 {L : Nat} {xs : Nat → Int32} {d x : Nat} {M : qxM} {st : List Value} {ls : qxL} : Rs L xs (d) 394 1040 ls st M x = Rs L xs (d) 394 3746 ls st M x := Rs_next c394_1040 rfl
theorem c394_1043 : qx_code 394 1043 = some (1043, .aload_n 1, 1044, 0, 0, 0) := by decide +kernel
theorem s394_1043 {L : Nat} {xs : Nat → Int32} {d x : Nat} {M : qxM} {st : List Value} {a0 a2 a3 a4 a5 a6 a7 a8 : Option Value} {z : Nat} : Rs L xs (d) 394 1043 [a0, some (.ref z), a2, a3, a4, a5, a6, a7, a8] st M x = Rs L xs (d) 394 1044 [a0, some (.ref z), a2, a3, a4, a5, a6, a7, a8] (.ref z :: st) M x := Rs_next c394_1043 rfl
theorem c394_1044 : qx_code 394 1044 = some (1044, .aload_n 0, 1045, 0, 0, 0) := by decide +kernel
theorem s394_1044 {L : Nat} {xs : Nat → Int32} {d x : Nat} {M : qxM} {st : List Value} {a1 a2 a3 a4 a5 a6 a7 a8 : Option Value} {z : Nat} : Rs L xs (d) 394 1044 [some (.ref z), a1, a2, a3, a4, a5, a6, a7, a8] st M x = Rs L xs (d) 394 1045 [some (.ref z), a1, a2, a3, a4, a5, a6, a7, a8] (.ref z :: st) M x := Rs_next c394_1044 rfl
theorem c394_1045 : qx_code 394 1045 = some (1045, .iload 5, 1047, 0, 0, 0) := by decide +kernel
theorem s394_1045 {L : Nat} {xs : Nat → Int32} {d x : Nat} {M : qxM} {st : List Value} {a0 a1 a2 a3 a4 a6 a7 a8 : Option Value} {z : Int32} : Rs L xs (d) 394 1045 [a0, a1, a2, a3, a4, some (.int z), a6, a7, a8] st M x = Rs L xs (d) 394 1047 [a0, a1, a2, a3, a4, some (.int z), a6, a7, a8] (.int z :: st) M x := Rs_next c394_1045 rfl
theorem c394_1047 : qx_code 394 1047 = some (1047, .iconst 1, 1048, 0, 0, 0) := by decide +kernel
theorem s394_1047 {L : Nat} {xs : Nat → Int32} {d x : Nat} {M : qxM} {st : List Value} {ls : qxL} : Rs L xs (d) 394 1047 ls st M x = Rs L xs (d) 394 1048 ls (.int (nI 1) :: st) M x := Rs_next c394_1047 rfl
theorem c394_1048 : qx_code 394 1048 = some (1048, .iadd, 1049, 0, 0, 0) := by decide +kernel
theorem s394_1048 {L : Nat} {xs : Nat → Int32} {d x : Nat} {M : qxM} {st : List Value} {ls : qxL} {z y : Int32} : Rs L xs (d) 394 1048 ls (.int y :: .int z :: st) M x = Rs L xs (d) 394 1049 ls (.int (z + y) :: st) M x := Rs_next c394_1048 rfl
theorem c394_1049 : qx_code 394 1049 = some (1049, .iaload, 1050, 0, 0, 0) := by decide +kernel
theorem s394_1049s {L : Nat} {xs : Nat → Int32} {d x : Nat} {M : qxM} {st : List Value} {ls : qxL} {j : Int32} (hj : qx_ib j L = true) : Rs L xs (d) 394 1049 ls (.int j :: .ref 1 :: st) M x = Rs L xs (d) 394 1050 ls (.int (xs j.toNatClampNeg) :: st) M x := Rs_unless (qx_ib_not hj) c394_1049 rfl
theorem c394_1050 : qx_code 394 1050 = some (1050, .aload_n 3, 1051, 0, 0, 0) := by decide +kernel
theorem s394_1050 {L : Nat} {xs : Nat → Int32} {d x : Nat} {M : qxM} {st : List Value} {a0 a1 a2 a4 a5 a6 a7 a8 : Option Value} {z : Nat} : Rs L xs (d) 394 1050 [a0, a1, a2, some (.ref z), a4, a5, a6, a7, a8] st M x = Rs L xs (d) 394 1051 [a0, a1, a2, some (.ref z), a4, a5, a6, a7, a8] (.ref z :: st) M x := Rs_next c394_1050 rfl
theorem c394_1051 : qx_code 394 1051 = some (1051, .invokestatic 261, 1054, 345, 3, 891) := by decide +kernel
theorem s394_1051 {L : Nat} {xs : Nat → Int32} {d x : Nat} {M : qxM} {st : List Value} {ls : qxL} {z0 : Nat} {z1 : Int32} {z2 : Nat} (hs : st.length ≤ 4) : Rs L xs (d + 1) 394 1051 ls (.ref z2 :: .int z1 :: .ref z0 :: st) M x = (Rs L xs d 345 0 [some (.ref z0), some (.int z1), some (.ref z2), none] [] M 0).bind (qx_kn L xs (d + 1) 394 1051 1054 345 ls st x) := by
  have h1 : qx_act L xs (qx_rt 394) (1051, .invokestatic 261, 1054, 345, 3, 891) ls (.ref z2 :: .int z1 :: .ref z0 :: st) M = if 3 ≤ (.ref z2 :: .int z1 :: .ref z0 :: st).length ∧ st.length ≤ 4 then some (.inr (.inr (.inr (345, [.ref z0, .int z1, .ref z2], st)))) else none := rfl
  rw [if_pos ⟨by simp [List.length_cons]; try omega, hs⟩] at h1
  exact Rs_call c394_1051 h1 rfl
theorem c394_1054 : qx_code 394 1054 = some (1054, .istore 6, 1056, 0, 0, 0) := by decide +kernel
theorem s394_1054i {L : Nat} {xs : Nat → Int32} {d x : Nat} {M : qxM} {st : List Value} {a0 a1 a2 a3 a4 a6 a7 a8 : Option Value} {z : Int32} {y : Int32} : Rs L xs (d) 394 1054 [a0, a1, a2, a3, a4, some (.int y), a6, a7, a8] (.int z :: st) M x = Rs L xs (d) 394 1056 [a0, a1, a2, a3, a4, some (.int y), some (.int z), a7, a8] st M x := Rs_next c394_1054 rfl
theorem c394_1056 : qx_code 394 1056 = some (1056, .aload_n 2, 1057, 0, 0, 0) := by decide +kernel
theorem s394_1056 {L : Nat} {xs : Nat → Int32} {d x : Nat} {M : qxM} {st : List Value} {a0 a1 a3 a4 a5 a6 a7 a8 : Option Value} {z : Nat} : Rs L xs (d) 394 1056 [a0, a1, some (.ref z), a3, a4, a5, a6, a7, a8] st M x = Rs L xs (d) 394 1057 [a0, a1, some (.ref z), a3, a4, a5, a6, a7, a8] (.ref z :: st) M x := Rs_next c394_1056 rfl
theorem c394_1057 : qx_code 394 1057 = some (1057, .aload_n 0, 1058, 0, 0, 0) := by decide +kernel
theorem s394_1057 {L : Nat} {xs : Nat → Int32} {d x : Nat} {M : qxM} {st : List Value} {a1 a2 a3 a4 a5 a6 a7 a8 : Option Value} {z : Nat} : Rs L xs (d) 394 1057 [some (.ref z), a1, a2, a3, a4, a5, a6, a7, a8] st M x = Rs L xs (d) 394 1058 [some (.ref z), a1, a2, a3, a4, a5, a6, a7, a8] (.ref z :: st) M x := Rs_next c394_1057 rfl
theorem c394_1058 : qx_code 394 1058 = some (1058, .iload 5, 1060, 0, 0, 0) := by decide +kernel
theorem s394_1058 {L : Nat} {xs : Nat → Int32} {d x : Nat} {M : qxM} {st : List Value} {a0 a1 a2 a3 a4 a6 a7 a8 : Option Value} {z : Int32} : Rs L xs (d) 394 1058 [a0, a1, a2, a3, a4, some (.int z), a6, a7, a8] st M x = Rs L xs (d) 394 1060 [a0, a1, a2, a3, a4, some (.int z), a6, a7, a8] (.int z :: st) M x := Rs_next c394_1058 rfl
theorem c394_1060 : qx_code 394 1060 = some (1060, .iconst 1, 1061, 0, 0, 0) := by decide +kernel
theorem s394_1060 {L : Nat} {xs : Nat → Int32} {d x : Nat} {M : qxM} {st : List Value} {ls : qxL} : Rs L xs (d) 394 1060 ls st M x = Rs L xs (d) 394 1061 ls (.int (nI 1) :: st) M x := Rs_next c394_1060 rfl
theorem c394_1061 : qx_code 394 1061 = some (1061, .iadd, 1062, 0, 0, 0) := by decide +kernel
theorem s394_1061 {L : Nat} {xs : Nat → Int32} {d x : Nat} {M : qxM} {st : List Value} {ls : qxL} {z y : Int32} : Rs L xs (d) 394 1061 ls (.int y :: .int z :: st) M x = Rs L xs (d) 394 1062 ls (.int (z + y) :: st) M x := Rs_next c394_1061 rfl
theorem c394_1062 : qx_code 394 1062 = some (1062, .iaload, 1063, 0, 0, 0) := by decide +kernel
theorem s394_1062s {L : Nat} {xs : Nat → Int32} {d x : Nat} {M : qxM} {st : List Value} {ls : qxL} {j : Int32} (hj : qx_ib j L = true) : Rs L xs (d) 394 1062 ls (.int j :: .ref 1 :: st) M x = Rs L xs (d) 394 1063 ls (.int (xs j.toNatClampNeg) :: st) M x := Rs_unless (qx_ib_not hj) c394_1062 rfl
theorem c394_1063 : qx_code 394 1063 = some (1063, .invokevirtual 263, 1066, 261, 2, 1870) := by decide +kernel
theorem s394_1063 {L : Nat} {xs : Nat → Int32} {d x : Nat} {M : qxM} {st : List Value} {ls : qxL} {t : Nat} {z0 : Int32} (hk : qx_kd t = 18) (hs : st.length ≤ 4) : Rs L xs (d + 1) 394 1063 ls (.int z0 :: .ref t :: st) M x = (Rs L xs d 261 0 [some (.ref t), some (.int z0)] [] M 0).bind (qx_kn L xs (d + 1) 394 1063 1066 261 ls st x) := by
  have h1 : qx_act L xs (qx_rt 394) (1063, .invokevirtual 263, 1066, 261, 2, 1870) ls (.int z0 :: .ref t :: st) M = if 2 ≤ (.int z0 :: .ref t :: st).length ∧ st.length ≤ 4 then some (.inr (.inr (.inr (261, [.ref t, .int z0], st)))) else none := rfl
  rw [if_pos ⟨by simp [List.length_cons]; try omega, hs⟩] at h1
  have h2 := qx_kd_obj (k := 8) (by decide) hk
  exact Rs_call c394_1063 h1 (by rw [show qx_args 261 [.ref t, .int z0] = decide (qx_sh t = some (.inl 8)) from rfl]; exact decide_eq_true h2)
theorem c394_1066 : qx_code 394 1066 = some (1066, .istore 7, 1068, 0, 0, 0) := by decide +kernel
theorem s394_1066i {L : Nat} {xs : Nat → Int32} {d x : Nat} {M : qxM} {st : List Value} {a0 a1 a2 a3 a4 a5 a7 a8 : Option Value} {z : Int32} {y : Int32} : Rs L xs (d) 394 1066 [a0, a1, a2, a3, a4, a5, some (.int y), a7, a8] (.int z :: st) M x = Rs L xs (d) 394 1068 [a0, a1, a2, a3, a4, a5, some (.int y), some (.int z), a8] st M x := Rs_next c394_1066 rfl
theorem c394_1068 : qx_code 394 1068 = some (1068, .aload_n 2, 1069, 0, 0, 0) := by decide +kernel
theorem s394_1068 {L : Nat} {xs : Nat → Int32} {d x : Nat} {M : qxM} {st : List Value} {a0 a1 a3 a4 a5 a6 a7 a8 : Option Value} {z : Nat} : Rs L xs (d) 394 1068 [a0, a1, some (.ref z), a3, a4, a5, a6, a7, a8] st M x = Rs L xs (d) 394 1069 [a0, a1, some (.ref z), a3, a4, a5, a6, a7, a8] (.ref z :: st) M x := Rs_next c394_1068 rfl
theorem c394_1069 : qx_code 394 1069 = some (1069, .invokevirtual 218, 1072, 177, 1, 1613) := by decide +kernel
theorem s394_1069 {L : Nat} {xs : Nat → Int32} {d x : Nat} {M : qxM} {st : List Value} {ls : qxL} {t : Nat} (hk : qx_kd t = 18) (hs : st.length ≤ 4) : Rs L xs (d + 1) 394 1069 ls (.ref t :: st) M x = (Rs L xs d 177 0 [some (.ref t)] [] M 0).bind (qx_kn L xs (d + 1) 394 1069 1072 177 ls st x) := by
  have h1 : qx_act L xs (qx_rt 394) (1069, .invokevirtual 218, 1072, 177, 1, 1613) ls (.ref t :: st) M = if 1 ≤ (.ref t :: st).length ∧ st.length ≤ 4 then some (.inr (.inr (.inr (177, [.ref t], st)))) else none := rfl
  rw [if_pos ⟨by simp [List.length_cons]; try omega, hs⟩] at h1
  have h2 := qx_kd_obj (k := 8) (by decide) hk
  exact Rs_call c394_1069 h1 (by rw [show qx_args 177 [.ref t] = decide (qx_sh t = some (.inl 8)) from rfl]; exact decide_eq_true h2)
theorem c394_1072 : qx_code 394 1072 = some (1072, .iload 6, 1074, 0, 0, 0) := by decide +kernel
theorem s394_1072 {L : Nat} {xs : Nat → Int32} {d x : Nat} {M : qxM} {st : List Value} {a0 a1 a2 a3 a4 a5 a7 a8 : Option Value} {z : Int32} : Rs L xs (d) 394 1072 [a0, a1, a2, a3, a4, a5, some (.int z), a7, a8] st M x = Rs L xs (d) 394 1074 [a0, a1, a2, a3, a4, a5, some (.int z), a7, a8] (.int z :: st) M x := Rs_next c394_1072 rfl
theorem c394_1074 : qx_code 394 1074 = some (1074, .if_icmp .eq 5, 1077, 1079, 0, 0) := by decide +kernel
theorem s394_1074 {L : Nat} {xs : Nat → Int32} {d x : Nat} {M : qxM} {st : List Value} {ls : qxL} {z y : Int32} : Rs L xs (d) 394 1074 ls (.int y :: .int z :: st) M x = if z = y then Rs L xs (d) 394 1079 ls st M x else Rs L xs (d) 394 1077 ls st M x := Rs_ite c394_1074 rfl
theorem c394_1079 : qx_code 394 1079 = some (1079, .iload 6, 1081, 0, 0, 0) := by decide +kernel
theorem s394_1079 {L : Nat} {xs : Nat → Int32} {d x : Nat} {M : qxM} {st : List Value} {a0 a1 a2 a3 a4 a5 a7 a8 : Option Value} {z : Int32} : Rs L xs (d) 394 1079 [a0, a1, a2, a3, a4, a5, some (.int z), a7, a8] st M x = Rs L xs (d) 394 1081 [a0, a1, a2, a3, a4, a5, some (.int z), a7, a8] (.int z :: st) M x := Rs_next c394_1079 rfl
theorem c394_1081 : qx_code 394 1081 = some (1081, .ifCond .ne 15, 1084, 1096, 0, 0) := by decide +kernel
theorem s394_1081 {L : Nat} {xs : Nat → Int32} {d x : Nat} {M : qxM} {st : List Value} {ls : qxL} {z : Int32} : Rs L xs (d) 394 1081 ls (.int z :: st) M x = if z = 0 then Rs L xs (d) 394 1084 ls st M x else Rs L xs (d) 394 1096 ls st M x := Rs_ite c394_1081 rfl
theorem c394_1084 : qx_code 394 1084 = some (1084, .aload_n 3, 1085, 0, 0, 0) := by decide +kernel
theorem s394_1084 {L : Nat} {xs : Nat → Int32} {d x : Nat} {M : qxM} {st : List Value} {a0 a1 a2 a4 a5 a6 a7 a8 : Option Value} {z : Nat} : Rs L xs (d) 394 1084 [a0, a1, a2, some (.ref z), a4, a5, a6, a7, a8] st M x = Rs L xs (d) 394 1085 [a0, a1, a2, some (.ref z), a4, a5, a6, a7, a8] (.ref z :: st) M x := Rs_next c394_1084 rfl
theorem c394_1085 : qx_code 394 1085 = some (1085, .iconst 0, 1086, 0, 0, 0) := by decide +kernel
theorem s394_1085 {L : Nat} {xs : Nat → Int32} {d x : Nat} {M : qxM} {st : List Value} {ls : qxL} : Rs L xs (d) 394 1085 ls st M x = Rs L xs (d) 394 1086 ls (.int (nI 0) :: st) M x := Rs_next c394_1085 rfl
theorem c394_1086 : qx_code 394 1086 = some (1086, .laload, 1087, 0, 0, 0) := by decide +kernel
theorem s394_1086 {L : Nat} {xs : Nat → Int32} {d x : Nat} {M : qxM} {st : List Value} {ls : qxL} {t : Nat} {j : Int32} (hk : qx_kd t = 4) (hj : qx_ib j (qx_ln t) = true) : Rs L xs (d) 394 1086 ls (.int j :: .ref t :: st) M x = Rs L xs (d) 394 1087 ls (.long (M.2.1 j.toNatClampNeg) :: st) M x := by
  have h1 := qx_kd_row (k := 4) (by decide) hk
  exact Rs_unless (qx_ib_not hj) c394_1086 (by unfold qx_act; dsimp only; rw [h1]; rfl)
theorem c394_1087 : qx_code 394 1087 = some (1087, .iload 7, 1089, 0, 0, 0) := by decide +kernel
theorem s394_1087 {L : Nat} {xs : Nat → Int32} {d x : Nat} {M : qxM} {st : List Value} {a0 a1 a2 a3 a4 a5 a6 a8 : Option Value} {z : Int32} : Rs L xs (d) 394 1087 [a0, a1, a2, a3, a4, a5, a6, some (.int z), a8] st M x = Rs L xs (d) 394 1089 [a0, a1, a2, a3, a4, a5, a6, some (.int z), a8] (.int z :: st) M x := Rs_next c394_1087 rfl
theorem c394_1089 : qx_code 394 1089 = some (1089, .i2l, 1090, 0, 0, 0) := by decide +kernel
theorem s394_1089 {L : Nat} {xs : Nat → Int32} {d x : Nat} {M : qxM} {st : List Value} {ls : qxL} {z : Int32} : Rs L xs (d) 394 1089 ls (.int z :: st) M x = Rs L xs (d) 394 1090 ls (.long z.toInt64 :: st) M x := Rs_next c394_1089 rfl
theorem c394_1090 : qx_code 394 1090 = some (1090, .lcmp, 1091, 0, 0, 0) := by decide +kernel
theorem s394_1090 {L : Nat} {xs : Nat → Int32} {d x : Nat} {M : qxM} {st : List Value} {ls : qxL} {z y : Int64} : Rs L xs (d) 394 1090 ls (.long y :: .long z :: st) M x = Rs L xs (d) 394 1091 ls (.int (lg_cmp z y) :: st) M x := Rs_next c394_1090 rfl
theorem c394_1091 : qx_code 394 1091 = some (1091, .ifCond .eq 5, 1094, 1096, 0, 0) := by decide +kernel
theorem s394_1091 {L : Nat} {xs : Nat → Int32} {d x : Nat} {M : qxM} {st : List Value} {ls : qxL} {z : Int32} : Rs L xs (d) 394 1091 ls (.int z :: st) M x = if z = 0 then Rs L xs (d) 394 1096 ls st M x else Rs L xs (d) 394 1094 ls st M x := Rs_ite c394_1091 rfl
