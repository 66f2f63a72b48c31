-- ===== PART A: goes FIRST, ahead of the names: the tables' words, and 'selects' of the private methods out of them =====
/-- a private method of a class that the tables say can be made, by its rows of tables_1 -/
def lw_okq (q : MethodName × Nat) : Prop := (q.1.cls ≠ "java/lang/invoke/MethodHandle" ∧ q.1.cls ≠ "java/lang/invoke/VarHandle") ∧ Cond.instantiable q.1.cls q.2 ∈ tables_1 ∧ Cond.privateMethod q.1 ∈ tables_1 ∧ Cond.instanceMethod q.1 ∈ tables_1
theorem lw_p0 : lw_okq (⟨"java/lang/Throwable", "fillInStackTrace", "(I)Ljava/lang/Throwable;"⟩, 6) := ⟨⟨by decide +kernel, by decide +kernel⟩, List.mem_of_getElem? (i := 369) (by decide +kernel), List.mem_of_getElem? (i := 367) (by decide +kernel), List.mem_of_getElem? (i := 368) (by decide +kernel)⟩
theorem lw_p1 : lw_okq (⟨"PupilPairs$Parser", "headError", "()I"⟩, 13) := ⟨⟨by decide +kernel, by decide +kernel⟩, List.mem_of_getElem? (i := 32) (by decide +kernel), List.mem_of_getElem? (i := 409) (by decide +kernel), List.mem_of_getElem? (i := 410) (by decide +kernel)⟩
theorem lw_p2 : lw_okq (⟨"PupilPairs$Parser", "readToken", "()V"⟩, 13) := ⟨⟨by decide +kernel, by decide +kernel⟩, List.mem_of_getElem? (i := 32) (by decide +kernel), List.mem_of_getElem? (i := 413) (by decide +kernel), List.mem_of_getElem? (i := 414) (by decide +kernel)⟩
theorem lw_p3 : lw_okq (⟨"PupilPairs$Parser", "byteAt", "(I)I"⟩, 13) := ⟨⟨by decide +kernel, by decide +kernel⟩, List.mem_of_getElem? (i := 32) (by decide +kernel), List.mem_of_getElem? (i := 417) (by decide +kernel), List.mem_of_getElem? (i := 418) (by decide +kernel)⟩
theorem lw_p4 : lw_okq (⟨"PupilPairs$Parser", "isBetween", "(ICC)Z"⟩, 13) := ⟨⟨by decide +kernel, by decide +kernel⟩, List.mem_of_getElem? (i := 32) (by decide +kernel), List.mem_of_getElem? (i := 421) (by decide +kernel), List.mem_of_getElem? (i := 422) (by decide +kernel)⟩
theorem lw_p5 : lw_okq (⟨"PupilPairs$Parser", "passRun", "(CC)V"⟩, 13) := ⟨⟨by decide +kernel, by decide +kernel⟩, List.mem_of_getElem? (i := 32) (by decide +kernel), List.mem_of_getElem? (i := 425) (by decide +kernel), List.mem_of_getElem? (i := 426) (by decide +kernel)⟩
theorem lw_p6 : lw_okq (⟨"PupilPairs$Parser", "numberOfToken", "()I"⟩, 13) := ⟨⟨by decide +kernel, by decide +kernel⟩, List.mem_of_getElem? (i := 32) (by decide +kernel), List.mem_of_getElem? (i := 429) (by decide +kernel), List.mem_of_getElem? (i := 430) (by decide +kernel)⟩
theorem lw_p7 : lw_okq (⟨"PupilPairs$Parser", "isWord", "(Ljava/lang/String;)Z"⟩, 13) := ⟨⟨by decide +kernel, by decide +kernel⟩, List.mem_of_getElem? (i := 32) (by decide +kernel), List.mem_of_getElem? (i := 434) (by decide +kernel), List.mem_of_getElem? (i := 435) (by decide +kernel)⟩
theorem lw_p8 : lw_okq (⟨"PupilPairs$Parser", "numberError", "(II)I"⟩, 13) := ⟨⟨by decide +kernel, by decide +kernel⟩, List.mem_of_getElem? (i := 32) (by decide +kernel), List.mem_of_getElem? (i := 486) (by decide +kernel), List.mem_of_getElem? (i := 487) (by decide +kernel)⟩
theorem lw_p9 : lw_okq (⟨"PupilPairs$Parser", "lineError", "()I"⟩, 13) := ⟨⟨by decide +kernel, by decide +kernel⟩, List.mem_of_getElem? (i := 32) (by decide +kernel), List.mem_of_getElem? (i := 490) (by decide +kernel), List.mem_of_getElem? (i := 491) (by decide +kernel)⟩
theorem lw_p10 : lw_okq (⟨"PupilPairs$Parser", "lineSort", "()I"⟩, 13) := ⟨⟨by decide +kernel, by decide +kernel⟩, List.mem_of_getElem? (i := 32) (by decide +kernel), List.mem_of_getElem? (i := 494) (by decide +kernel), List.mem_of_getElem? (i := 495) (by decide +kernel)⟩
theorem lw_p11 : lw_okq (⟨"PupilPairs$Parser", "pupilError", "(II)I"⟩, 13) := ⟨⟨by decide +kernel, by decide +kernel⟩, List.mem_of_getElem? (i := 32) (by decide +kernel), List.mem_of_getElem? (i := 502) (by decide +kernel), List.mem_of_getElem? (i := 503) (by decide +kernel)⟩
theorem lw_p12 : lw_okq (⟨"PupilPairs$Parser", "takePupil", "(II)V"⟩, 13) := ⟨⟨by decide +kernel, by decide +kernel⟩, List.mem_of_getElem? (i := 32) (by decide +kernel), List.mem_of_getElem? (i := 530) (by decide +kernel), List.mem_of_getElem? (i := 531) (by decide +kernel)⟩
theorem lw_p13 : lw_okq (⟨"PupilPairs", "needText", "()V"⟩, 11) := ⟨⟨by decide +kernel, by decide +kernel⟩, List.mem_of_getElem? (i := 24) (by decide +kernel), List.mem_of_getElem? (i := 607) (by decide +kernel), List.mem_of_getElem? (i := 608) (by decide +kernel)⟩
theorem lw_p14 : lw_okq (⟨"PupilPairs", "needRange", "(II)V"⟩, 11) := ⟨⟨by decide +kernel, by decide +kernel⟩, List.mem_of_getElem? (i := 24) (by decide +kernel), List.mem_of_getElem? (i := 627) (by decide +kernel), List.mem_of_getElem? (i := 628) (by decide +kernel)⟩
theorem lw_p15 : lw_okq (⟨"PupilPairs", "needPupil", "(I)V"⟩, 11) := ⟨⟨by decide +kernel, by decide +kernel⟩, List.mem_of_getElem? (i := 24) (by decide +kernel), List.mem_of_getElem? (i := 659) (by decide +kernel), List.mem_of_getElem? (i := 660) (by decide +kernel)⟩
def lw_privs_1 : List (MethodName × Nat) := [(⟨"java/lang/Throwable", "fillInStackTrace", "(I)Ljava/lang/Throwable;"⟩, 6), (⟨"PupilPairs$Parser", "headError", "()I"⟩, 13), (⟨"PupilPairs$Parser", "readToken", "()V"⟩, 13), (⟨"PupilPairs$Parser", "byteAt", "(I)I"⟩, 13), (⟨"PupilPairs$Parser", "isBetween", "(ICC)Z"⟩, 13), (⟨"PupilPairs$Parser", "passRun", "(CC)V"⟩, 13), (⟨"PupilPairs$Parser", "numberOfToken", "()I"⟩, 13), (⟨"PupilPairs$Parser", "isWord", "(Ljava/lang/String;)Z"⟩, 13), (⟨"PupilPairs$Parser", "numberError", "(II)I"⟩, 13), (⟨"PupilPairs$Parser", "lineError", "()I"⟩, 13), (⟨"PupilPairs$Parser", "lineSort", "()I"⟩, 13), (⟨"PupilPairs$Parser", "pupilError", "(II)I"⟩, 13), (⟨"PupilPairs$Parser", "takePupil", "(II)V"⟩, 13), (⟨"PupilPairs", "needText", "()V"⟩, 11), (⟨"PupilPairs", "needRange", "(II)V"⟩, 11), (⟨"PupilPairs", "needPupil", "(I)V"⟩, 11)]
theorem lw_r1 : ∀ q ∈ lw_privs_1, lw_okq q := List.forall_mem_cons.mpr ⟨lw_p0, List.forall_mem_cons.mpr ⟨lw_p1, List.forall_mem_cons.mpr ⟨lw_p2, List.forall_mem_cons.mpr ⟨lw_p3, List.forall_mem_cons.mpr ⟨lw_p4, List.forall_mem_cons.mpr ⟨lw_p5, List.forall_mem_cons.mpr ⟨lw_p6, List.forall_mem_cons.mpr ⟨lw_p7, List.forall_mem_cons.mpr ⟨lw_p8, List.forall_mem_cons.mpr ⟨lw_p9, List.forall_mem_cons.mpr ⟨lw_p10, List.forall_mem_cons.mpr ⟨lw_p11, List.forall_mem_cons.mpr ⟨lw_p12, List.forall_mem_cons.mpr ⟨lw_p13, List.forall_mem_cons.mpr ⟨lw_p14, List.forall_mem_cons.mpr ⟨lw_p15, fun _ h => absurd h List.not_mem_nil⟩⟩⟩⟩⟩⟩⟩⟩⟩⟩⟩⟩⟩⟩⟩⟩
theorem lw_p16 : lw_okq (⟨"PupilPairs", "needPupils", "(II)V"⟩, 11) := ⟨⟨by decide +kernel, by decide +kernel⟩, List.mem_of_getElem? (i := 24) (by decide +kernel), List.mem_of_getElem? (i := 678) (by decide +kernel), List.mem_of_getElem? (i := 679) (by decide +kernel)⟩
theorem lw_p17 : lw_okq (⟨"PupilPairs", "obstacle", "(II)I"⟩, 11) := ⟨⟨by decide +kernel, by decide +kernel⟩, List.mem_of_getElem? (i := 24) (by decide +kernel), List.mem_of_getElem? (i := 697) (by decide +kernel), List.mem_of_getElem? (i := 698) (by decide +kernel)⟩
theorem lw_p18 : lw_okq (⟨"PupilPairs", "groupsOfAtLeast", "(I)I"⟩, 11) := ⟨⟨by decide +kernel, by decide +kernel⟩, List.mem_of_getElem? (i := 24) (by decide +kernel), List.mem_of_getElem? (i := 722) (by decide +kernel), List.mem_of_getElem? (i := 723) (by decide +kernel)⟩
theorem lw_p19 : lw_okq (⟨"PupilPairs", "groupOf", "(I)I"⟩, 11) := ⟨⟨by decide +kernel, by decide +kernel⟩, List.mem_of_getElem? (i := 24) (by decide +kernel), List.mem_of_getElem? (i := 726) (by decide +kernel), List.mem_of_getElem? (i := 727) (by decide +kernel)⟩
theorem lw_p20 : lw_okq (⟨"PupilPairs", "tableNow", "()LPupilPairs$MostTable;"⟩, 11) := ⟨⟨by decide +kernel, by decide +kernel⟩, List.mem_of_getElem? (i := 24) (by decide +kernel), List.mem_of_getElem? (i := 855) (by decide +kernel), List.mem_of_getElem? (i := 856) (by decide +kernel)⟩
theorem lw_p21 : lw_okq (⟨"PupilPairs$MostTable", "rowOf", "(I)I"⟩, 5) := ⟨⟨by decide +kernel, by decide +kernel⟩, List.mem_of_getElem? (i := 126) (by decide +kernel), List.mem_of_getElem? (i := 868) (by decide +kernel), List.mem_of_getElem? (i := 869) (by decide +kernel)⟩
theorem lw_p22 : lw_okq (⟨"PupilPairs$MostTable", "but", "(II)I"⟩, 5) := ⟨⟨by decide +kernel, by decide +kernel⟩, List.mem_of_getElem? (i := 126) (by decide +kernel), List.mem_of_getElem? (i := 929) (by decide +kernel), List.mem_of_getElem? (i := 930) (by decide +kernel)⟩
theorem lw_p23 : lw_okq (⟨"PupilPairs", "needSet", "(I)V"⟩, 11) := ⟨⟨by decide +kernel, by decide +kernel⟩, List.mem_of_getElem? (i := 24) (by decide +kernel), List.mem_of_getElem? (i := 989) (by decide +kernel), List.mem_of_getElem? (i := 990) (by decide +kernel)⟩
theorem lw_p24 : lw_okq (⟨"PupilPairs$Search", "becomeOuter", "(I)V"⟩, 15) := ⟨⟨by decide +kernel, by decide +kernel⟩, List.mem_of_getElem? (i := 156) (by decide +kernel), List.mem_of_getElem? (i := 1127) (by decide +kernel), List.mem_of_getElem? (i := 1128) (by decide +kernel)⟩
theorem lw_p25 : lw_okq (⟨"PupilPairs$Search", "leaveQueue", "()I"⟩, 15) := ⟨⟨by decide +kernel, by decide +kernel⟩, List.mem_of_getElem? (i := 156) (by decide +kernel), List.mem_of_getElem? (i := 1145) (by decide +kernel), List.mem_of_getElem? (i := 1146) (by decide +kernel)⟩
theorem lw_p26 : lw_okq (⟨"PupilPairs$Search", "makeBlossom", "(LPupilPairs$Pupils;II)V"⟩, 15) := ⟨⟨by decide +kernel, by decide +kernel⟩, List.mem_of_getElem? (i := 156) (by decide +kernel), List.mem_of_getElem? (i := 1149) (by decide +kernel), List.mem_of_getElem? (i := 1150) (by decide +kernel)⟩
theorem lw_p27 : lw_okq (⟨"PupilPairs$Search", "meetingBase", "(LPupilPairs$Pupils;II)I"⟩, 15) := ⟨⟨by decide +kernel, by decide +kernel⟩, List.mem_of_getElem? (i := 156) (by decide +kernel), List.mem_of_getElem? (i := 1153) (by decide +kernel), List.mem_of_getElem? (i := 1154) (by decide +kernel)⟩
theorem lw_p28 : lw_okq (⟨"PupilPairs$Search", "baseAbove", "(LPupilPairs$Pupils;I)I"⟩, 15) := ⟨⟨by decide +kernel, by decide +kernel⟩, List.mem_of_getElem? (i := 156) (by decide +kernel), List.mem_of_getElem? (i := 1157) (by decide +kernel), List.mem_of_getElem? (i := 1158) (by decide +kernel)⟩
theorem lw_p29 : lw_okq (⟨"PupilPairs$Search", "bridgeMates", "(LPupilPairs$Pupils;III)I"⟩, 15) := ⟨⟨by decide +kernel, by decide +kernel⟩, List.mem_of_getElem? (i := 156) (by decide +kernel), List.mem_of_getElem? (i := 1162) (by decide +kernel), List.mem_of_getElem? (i := 1163) (by decide +kernel)⟩
theorem lw_p30 : lw_okq (⟨"PupilPairs$Search", "rowMembers", "(LPupilPairs$Pupils;II)I"⟩, 15) := ⟨⟨by decide +kernel, by decide +kernel⟩, List.mem_of_getElem? (i := 156) (by decide +kernel), List.mem_of_getElem? (i := 1166) (by decide +kernel), List.mem_of_getElem? (i := 1167) (by decide +kernel)⟩
theorem lw_p31 : lw_okq (⟨"PupilPairs$Search", "grow", "(III)V"⟩, 15) := ⟨⟨by decide +kernel, by decide +kernel⟩, List.mem_of_getElem? (i := 156) (by decide +kernel), List.mem_of_getElem? (i := 1190) (by decide +kernel), List.mem_of_getElem? (i := 1191) (by decide +kernel)⟩
def lw_privs_2 : List (MethodName × Nat) := [(⟨"PupilPairs", "needPupils", "(II)V"⟩, 11), (⟨"PupilPairs", "obstacle", "(II)I"⟩, 11), (⟨"PupilPairs", "groupsOfAtLeast", "(I)I"⟩, 11), (⟨"PupilPairs", "groupOf", "(I)I"⟩, 11), (⟨"PupilPairs", "tableNow", "()LPupilPairs$MostTable;"⟩, 11), (⟨"PupilPairs$MostTable", "rowOf", "(I)I"⟩, 5), (⟨"PupilPairs$MostTable", "but", "(II)I"⟩, 5), (⟨"PupilPairs", "needSet", "(I)V"⟩, 11), (⟨"PupilPairs$Search", "becomeOuter", "(I)V"⟩, 15), (⟨"PupilPairs$Search", "leaveQueue", "()I"⟩, 15), (⟨"PupilPairs$Search", "makeBlossom", "(LPupilPairs$Pupils;II)V"⟩, 15), (⟨"PupilPairs$Search", "meetingBase", "(LPupilPairs$Pupils;II)I"⟩, 15), (⟨"PupilPairs$Search", "baseAbove", "(LPupilPairs$Pupils;I)I"⟩, 15), (⟨"PupilPairs$Search", "bridgeMates", "(LPupilPairs$Pupils;III)I"⟩, 15), (⟨"PupilPairs$Search", "rowMembers", "(LPupilPairs$Pupils;II)I"⟩, 15), (⟨"PupilPairs$Search", "grow", "(III)V"⟩, 15)]
theorem lw_r2 : ∀ q ∈ lw_privs_2, lw_okq q := List.forall_mem_cons.mpr ⟨lw_p16, List.forall_mem_cons.mpr ⟨lw_p17, List.forall_mem_cons.mpr ⟨lw_p18, List.forall_mem_cons.mpr ⟨lw_p19, List.forall_mem_cons.mpr ⟨lw_p20, List.forall_mem_cons.mpr ⟨lw_p21, List.forall_mem_cons.mpr ⟨lw_p22, List.forall_mem_cons.mpr ⟨lw_p23, List.forall_mem_cons.mpr ⟨lw_p24, List.forall_mem_cons.mpr ⟨lw_p25, List.forall_mem_cons.mpr ⟨lw_p26, List.forall_mem_cons.mpr ⟨lw_p27, List.forall_mem_cons.mpr ⟨lw_p28, List.forall_mem_cons.mpr ⟨lw_p29, List.forall_mem_cons.mpr ⟨lw_p30, List.forall_mem_cons.mpr ⟨lw_p31, fun _ h => absurd h List.not_mem_nil⟩⟩⟩⟩⟩⟩⟩⟩⟩⟩⟩⟩⟩⟩⟩⟩
theorem lw_p32 : lw_okq (⟨"PupilPairs$State", "addToSums", "(I)V"⟩, 6) := ⟨⟨by decide +kernel, by decide +kernel⟩, List.mem_of_getElem? (i := 148) (by decide +kernel), List.mem_of_getElem? (i := 1194) (by decide +kernel), List.mem_of_getElem? (i := 1195) (by decide +kernel)⟩
theorem lw_p33 : lw_okq (⟨"PupilPairs", "keepForUndo", "()V"⟩, 11) := ⟨⟨by decide +kernel, by decide +kernel⟩, List.mem_of_getElem? (i := 24) (by decide +kernel), List.mem_of_getElem? (i := 1284) (by decide +kernel), List.mem_of_getElem? (i := 1285) (by decide +kernel)⟩
theorem lw_p34 : lw_okq (⟨"PupilPairs", "stateAt", "([LPupilPairs$State;I)LPupilPairs$State;"⟩, 11) := ⟨⟨by decide +kernel, by decide +kernel⟩, List.mem_of_getElem? (i := 24) (by decide +kernel), List.mem_of_getElem? (i := 1288) (by decide +kernel), List.mem_of_getElem? (i := 1289) (by decide +kernel)⟩
theorem lw_p35 : lw_okq (⟨"PupilPairs", "needGoingSearch", "()V"⟩, 11) := ⟨⟨by decide +kernel, by decide +kernel⟩, List.mem_of_getElem? (i := 24) (by decide +kernel), List.mem_of_getElem? (i := 1314) (by decide +kernel), List.mem_of_getElem? (i := 1315) (by decide +kernel)⟩
theorem lw_p36 : lw_okq (⟨"PupilPairs", "needSlot", "(I)V"⟩, 11) := ⟨⟨by decide +kernel, by decide +kernel⟩, List.mem_of_getElem? (i := 24) (by decide +kernel), List.mem_of_getElem? (i := 1405) (by decide +kernel), List.mem_of_getElem? (i := 1406) (by decide +kernel)⟩
theorem lw_p37 : lw_okq (⟨"PupilPairsModel", "four", "(I)V"⟩, 22) := ⟨⟨by decide +kernel, by decide +kernel⟩, List.mem_of_getElem? (i := 1418) (by decide +kernel), List.mem_of_getElem? (i := 1500) (by decide +kernel), List.mem_of_getElem? (i := 1501) (by decide +kernel)⟩
theorem lw_p38 : lw_okq (⟨"PupilPairsModel", "may", "(ZZZ)Z"⟩, 22) := ⟨⟨by decide +kernel, by decide +kernel⟩, List.mem_of_getElem? (i := 1418) (by decide +kernel), List.mem_of_getElem? (i := 1523) (by decide +kernel), List.mem_of_getElem? (i := 1524) (by decide +kernel)⟩
theorem lw_p39 : lw_okq (⟨"PupilPairsModel", "thinks", "()V"⟩, 22) := ⟨⟨by decide +kernel, by decide +kernel⟩, List.mem_of_getElem? (i := 1418) (by decide +kernel), List.mem_of_getElem? (i := 1527) (by decide +kernel), List.mem_of_getElem? (i := 1528) (by decide +kernel)⟩
theorem lw_p40 : lw_okq (⟨"PupilPairsModel", "readsText", "()V"⟩, 22) := ⟨⟨by decide +kernel, by decide +kernel⟩, List.mem_of_getElem? (i := 1418) (by decide +kernel), List.mem_of_getElem? (i := 1534) (by decide +kernel), List.mem_of_getElem? (i := 1535) (by decide +kernel)⟩
theorem lw_p41 : lw_okq (⟨"PupilPairsModel", "goes", "()V"⟩, 22) := ⟨⟨by decide +kernel, by decide +kernel⟩, List.mem_of_getElem? (i := 1418) (by decide +kernel), List.mem_of_getElem? (i := 1538) (by decide +kernel), List.mem_of_getElem? (i := 1539) (by decide +kernel)⟩
theorem lw_p42 : lw_okq (⟨"PupilPairsModel", "isLetter", "(I)Z"⟩, 22) := ⟨⟨by decide +kernel, by decide +kernel⟩, List.mem_of_getElem? (i := 1418) (by decide +kernel), List.mem_of_getElem? (i := 1542) (by decide +kernel), List.mem_of_getElem? (i := 1543) (by decide +kernel)⟩
theorem lw_p43 : lw_okq (⟨"PupilPairsModel", "isDigit", "(I)Z"⟩, 22) := ⟨⟨by decide +kernel, by decide +kernel⟩, List.mem_of_getElem? (i := 1418) (by decide +kernel), List.mem_of_getElem? (i := 1546) (by decide +kernel), List.mem_of_getElem? (i := 1547) (by decide +kernel)⟩
theorem lw_p44 : lw_okq (⟨"PupilPairsModel", "isWord", "(Ljava/lang/String;)Z"⟩, 22) := ⟨⟨by decide +kernel, by decide +kernel⟩, List.mem_of_getElem? (i := 1418) (by decide +kernel), List.mem_of_getElem? (i := 1551) (by decide +kernel), List.mem_of_getElem? (i := 1552) (by decide +kernel)⟩
theorem lw_p45 : lw_okq (⟨"PupilPairsModel", "is", "(I)Z"⟩, 22) := ⟨⟨by decide +kernel, by decide +kernel⟩, List.mem_of_getElem? (i := 1418) (by decide +kernel), List.mem_of_getElem? (i := 1555) (by decide +kernel), List.mem_of_getElem? (i := 1556) (by decide +kernel)⟩
theorem lw_p46 : lw_okq (⟨"PupilPairsModel", "faults", "(I)V"⟩, 22) := ⟨⟨by decide +kernel, by decide +kernel⟩, List.mem_of_getElem? (i := 1418) (by decide +kernel), List.mem_of_getElem? (i := 1561) (by decide +kernel), List.mem_of_getElem? (i := 1562) (by decide +kernel)⟩
theorem lw_p47 : lw_okq (⟨"PupilPairsModel", "number", "(II)I"⟩, 22) := ⟨⟨by decide +kernel, by decide +kernel⟩, List.mem_of_getElem? (i := 1418) (by decide +kernel), List.mem_of_getElem? (i := 1565) (by decide +kernel), List.mem_of_getElem? (i := 1566) (by decide +kernel)⟩
def lw_privs_3 : List (MethodName × Nat) := [(⟨"PupilPairs$State", "addToSums", "(I)V"⟩, 6), (⟨"PupilPairs", "keepForUndo", "()V"⟩, 11), (⟨"PupilPairs", "stateAt", "([LPupilPairs$State;I)LPupilPairs$State;"⟩, 11), (⟨"PupilPairs", "needGoingSearch", "()V"⟩, 11), (⟨"PupilPairs", "needSlot", "(I)V"⟩, 11), (⟨"PupilPairsModel", "four", "(I)V"⟩, 22), (⟨"PupilPairsModel", "may", "(ZZZ)Z"⟩, 22), (⟨"PupilPairsModel", "thinks", "()V"⟩, 22), (⟨"PupilPairsModel", "readsText", "()V"⟩, 22), (⟨"PupilPairsModel", "goes", "()V"⟩, 22), (⟨"PupilPairsModel", "isLetter", "(I)Z"⟩, 22), (⟨"PupilPairsModel", "isDigit", "(I)Z"⟩, 22), (⟨"PupilPairsModel", "isWord", "(Ljava/lang/String;)Z"⟩, 22), (⟨"PupilPairsModel", "is", "(I)Z"⟩, 22), (⟨"PupilPairsModel", "faults", "(I)V"⟩, 22), (⟨"PupilPairsModel", "number", "(II)I"⟩, 22)]
theorem lw_r3 : ∀ q ∈ lw_privs_3, lw_okq q := List.forall_mem_cons.mpr ⟨lw_p32, List.forall_mem_cons.mpr ⟨lw_p33, List.forall_mem_cons.mpr ⟨lw_p34, List.forall_mem_cons.mpr ⟨lw_p35, List.forall_mem_cons.mpr ⟨lw_p36, List.forall_mem_cons.mpr ⟨lw_p37, List.forall_mem_cons.mpr ⟨lw_p38, List.forall_mem_cons.mpr ⟨lw_p39, List.forall_mem_cons.mpr ⟨lw_p40, List.forall_mem_cons.mpr ⟨lw_p41, List.forall_mem_cons.mpr ⟨lw_p42, List.forall_mem_cons.mpr ⟨lw_p43, List.forall_mem_cons.mpr ⟨lw_p44, List.forall_mem_cons.mpr ⟨lw_p45, List.forall_mem_cons.mpr ⟨lw_p46, List.forall_mem_cons.mpr ⟨lw_p47, fun _ h => absurd h List.not_mem_nil⟩⟩⟩⟩⟩⟩⟩⟩⟩⟩⟩⟩⟩⟩⟩⟩
theorem lw_p48 : lw_okq (⟨"PupilPairsModel", "numberHere", "(II)I"⟩, 22) := ⟨⟨by decide +kernel, by decide +kernel⟩, List.mem_of_getElem? (i := 1418) (by decide +kernel), List.mem_of_getElem? (i := 1569) (by decide +kernel), List.mem_of_getElem? (i := 1570) (by decide +kernel)⟩
theorem lw_p49 : lw_okq (⟨"PupilPairsModel", "readsLine", "()V"⟩, 22) := ⟨⟨by decide +kernel, by decide +kernel⟩, List.mem_of_getElem? (i := 1418) (by decide +kernel), List.mem_of_getElem? (i := 1573) (by decide +kernel), List.mem_of_getElem? (i := 1574) (by decide +kernel)⟩
theorem lw_p50 : lw_okq (⟨"PupilPairsModel", "readsKind", "()V"⟩, 22) := ⟨⟨by decide +kernel, by decide +kernel⟩, List.mem_of_getElem? (i := 1418) (by decide +kernel), List.mem_of_getElem? (i := 1578) (by decide +kernel), List.mem_of_getElem? (i := 1579) (by decide +kernel)⟩
theorem lw_p51 : lw_okq (⟨"PupilPairsModel", "readsPupil", "()I"⟩, 22) := ⟨⟨by decide +kernel, by decide +kernel⟩, List.mem_of_getElem? (i := 1418) (by decide +kernel), List.mem_of_getElem? (i := 1582) (by decide +kernel), List.mem_of_getElem? (i := 1583) (by decide +kernel)⟩
theorem lw_p52 : lw_okq (⟨"PupilPairsModel", "pupilHere", "()I"⟩, 22) := ⟨⟨by decide +kernel, by decide +kernel⟩, List.mem_of_getElem? (i := 1418) (by decide +kernel), List.mem_of_getElem? (i := 1586) (by decide +kernel), List.mem_of_getElem? (i := 1587) (by decide +kernel)⟩
theorem lw_p53 : lw_okq (⟨"PupilPairsModel", "readsFriends", "()V"⟩, 22) := ⟨⟨by decide +kernel, by decide +kernel⟩, List.mem_of_getElem? (i := 1418) (by decide +kernel), List.mem_of_getElem? (i := 1591) (by decide +kernel), List.mem_of_getElem? (i := 1592) (by decide +kernel)⟩
theorem lw_p54 : lw_okq (⟨"PupilPairsModel", "readsFriend", "(I)V"⟩, 22) := ⟨⟨by decide +kernel, by decide +kernel⟩, List.mem_of_getElem? (i := 1418) (by decide +kernel), List.mem_of_getElem? (i := 1595) (by decide +kernel), List.mem_of_getElem? (i := 1596) (by decide +kernel)⟩
theorem lw_p55 : lw_okq (⟨"PupilPairsModel", "befriends", "(IIZ)V"⟩, 22) := ⟨⟨by decide +kernel, by decide +kernel⟩, List.mem_of_getElem? (i := 1418) (by decide +kernel), List.mem_of_getElem? (i := 1599) (by decide +kernel), List.mem_of_getElem? (i := 1600) (by decide +kernel)⟩
theorem lw_p56 : lw_okq (⟨"PupilPairsModel", "readsRing", "()V"⟩, 22) := ⟨⟨by decide +kernel, by decide +kernel⟩, List.mem_of_getElem? (i := 1418) (by decide +kernel), List.mem_of_getElem? (i := 1604) (by decide +kernel), List.mem_of_getElem? (i := 1605) (by decide +kernel)⟩
theorem lw_p57 : lw_okq (⟨"PupilPairsModel", "readsPair", "()V"⟩, 22) := ⟨⟨by decide +kernel, by decide +kernel⟩, List.mem_of_getElem? (i := 1418) (by decide +kernel), List.mem_of_getElem? (i := 1612) (by decide +kernel), List.mem_of_getElem? (i := 1613) (by decide +kernel)⟩
theorem lw_p58 : lw_okq (⟨"PupilPairsModel", "mate", "(I)I"⟩, 22) := ⟨⟨by decide +kernel, by decide +kernel⟩, List.mem_of_getElem? (i := 1418) (by decide +kernel), List.mem_of_getElem? (i := 1616) (by decide +kernel), List.mem_of_getElem? (i := 1617) (by decide +kernel)⟩
theorem lw_p59 : lw_okq (⟨"PupilPairsModel", "mayPair", "(II)Z"⟩, 22) := ⟨⟨by decide +kernel, by decide +kernel⟩, List.mem_of_getElem? (i := 1418) (by decide +kernel), List.mem_of_getElem? (i := 1620) (by decide +kernel), List.mem_of_getElem? (i := 1621) (by decide +kernel)⟩
theorem lw_p60 : lw_okq (⟨"PupilPairsModel", "areFriends", "(II)Z"⟩, 22) := ⟨⟨by decide +kernel, by decide +kernel⟩, List.mem_of_getElem? (i := 1418) (by decide +kernel), List.mem_of_getElem? (i := 1624) (by decide +kernel), List.mem_of_getElem? (i := 1625) (by decide +kernel)⟩
theorem lw_p61 : lw_okq (⟨"PupilPairsModel", "isAllowed", "(II)Z"⟩, 22) := ⟨⟨by decide +kernel, by decide +kernel⟩, List.mem_of_getElem? (i := 1418) (by decide +kernel), List.mem_of_getElem? (i := 1628) (by decide +kernel), List.mem_of_getElem? (i := 1629) (by decide +kernel)⟩
theorem lw_p62 : lw_okq (⟨"PupilPairsModel", "mates", "(II)V"⟩, 22) := ⟨⟨by decide +kernel, by decide +kernel⟩, List.mem_of_getElem? (i := 1418) (by decide +kernel), List.mem_of_getElem? (i := 1632) (by decide +kernel), List.mem_of_getElem? (i := 1633) (by decide +kernel)⟩
theorem lw_p63 : lw_okq (⟨"PupilPairsModel", "partsAll", "()I"⟩, 22) := ⟨⟨by decide +kernel, by decide +kernel⟩, List.mem_of_getElem? (i := 1418) (by decide +kernel), List.mem_of_getElem? (i := 1636) (by decide +kernel), List.mem_of_getElem? (i := 1637) (by decide +kernel)⟩
def lw_privs_4 : List (MethodName × Nat) := [(⟨"PupilPairsModel", "numberHere", "(II)I"⟩, 22), (⟨"PupilPairsModel", "readsLine", "()V"⟩, 22), (⟨"PupilPairsModel", "readsKind", "()V"⟩, 22), (⟨"PupilPairsModel", "readsPupil", "()I"⟩, 22), (⟨"PupilPairsModel", "pupilHere", "()I"⟩, 22), (⟨"PupilPairsModel", "readsFriends", "()V"⟩, 22), (⟨"PupilPairsModel", "readsFriend", "(I)V"⟩, 22), (⟨"PupilPairsModel", "befriends", "(IIZ)V"⟩, 22), (⟨"PupilPairsModel", "readsRing", "()V"⟩, 22), (⟨"PupilPairsModel", "readsPair", "()V"⟩, 22), (⟨"PupilPairsModel", "mate", "(I)I"⟩, 22), (⟨"PupilPairsModel", "mayPair", "(II)Z"⟩, 22), (⟨"PupilPairsModel", "areFriends", "(II)Z"⟩, 22), (⟨"PupilPairsModel", "isAllowed", "(II)Z"⟩, 22), (⟨"PupilPairsModel", "mates", "(II)V"⟩, 22), (⟨"PupilPairsModel", "partsAll", "()I"⟩, 22)]
theorem lw_r4 : ∀ q ∈ lw_privs_4, lw_okq q := List.forall_mem_cons.mpr ⟨lw_p48, List.forall_mem_cons.mpr ⟨lw_p49, List.forall_mem_cons.mpr ⟨lw_p50, List.forall_mem_cons.mpr ⟨lw_p51, List.forall_mem_cons.mpr ⟨lw_p52, List.forall_mem_cons.mpr ⟨lw_p53, List.forall_mem_cons.mpr ⟨lw_p54, List.forall_mem_cons.mpr ⟨lw_p55, List.forall_mem_cons.mpr ⟨lw_p56, List.forall_mem_cons.mpr ⟨lw_p57, List.forall_mem_cons.mpr ⟨lw_p58, List.forall_mem_cons.mpr ⟨lw_p59, List.forall_mem_cons.mpr ⟨lw_p60, List.forall_mem_cons.mpr ⟨lw_p61, List.forall_mem_cons.mpr ⟨lw_p62, List.forall_mem_cons.mpr ⟨lw_p63, fun _ h => absurd h List.not_mem_nil⟩⟩⟩⟩⟩⟩⟩⟩⟩⟩⟩⟩⟩⟩⟩⟩
theorem lw_p64 : lw_okq (⟨"PupilPairsModel", "parts", "(I)V"⟩, 22) := ⟨⟨by decide +kernel, by decide +kernel⟩, List.mem_of_getElem? (i := 1418) (by decide +kernel), List.mem_of_getElem? (i := 1640) (by decide +kernel), List.mem_of_getElem? (i := 1641) (by decide +kernel)⟩
theorem lw_p65 : lw_okq (⟨"PupilPairsModel", "back", "(I)I"⟩, 22) := ⟨⟨by decide +kernel, by decide +kernel⟩, List.mem_of_getElem? (i := 1418) (by decide +kernel), List.mem_of_getElem? (i := 1644) (by decide +kernel), List.mem_of_getElem? (i := 1645) (by decide +kernel)⟩
theorem lw_p66 : lw_okq (⟨"PupilPairsModel", "mayTwo", "(ZZ)Z"⟩, 22) := ⟨⟨by decide +kernel, by decide +kernel⟩, List.mem_of_getElem? (i := 1418) (by decide +kernel), List.mem_of_getElem? (i := 1652) (by decide +kernel), List.mem_of_getElem? (i := 1653) (by decide +kernel)⟩
theorem lw_p67 : lw_okq (⟨"PupilPairsModel", "friendships", "(Z)I"⟩, 22) := ⟨⟨by decide +kernel, by decide +kernel⟩, List.mem_of_getElem? (i := 1418) (by decide +kernel), List.mem_of_getElem? (i := 1656) (by decide +kernel), List.mem_of_getElem? (i := 1657) (by decide +kernel)⟩
theorem lw_p68 : lw_okq (⟨"PupilPairsModel", "those", "(I)I"⟩, 22) := ⟨⟨by decide +kernel, by decide +kernel⟩, List.mem_of_getElem? (i := 1418) (by decide +kernel), List.mem_of_getElem? (i := 1660) (by decide +kernel), List.mem_of_getElem? (i := 1661) (by decide +kernel)⟩
theorem lw_p69 : lw_okq (⟨"PupilPairsModel", "pairs", "()I"⟩, 22) := ⟨⟨by decide +kernel, by decide +kernel⟩, List.mem_of_getElem? (i := 1418) (by decide +kernel), List.mem_of_getElem? (i := 1670) (by decide +kernel), List.mem_of_getElem? (i := 1671) (by decide +kernel)⟩
theorem lw_p70 : lw_okq (⟨"PupilPairsModel", "freeSet", "()I"⟩, 22) := ⟨⟨by decide +kernel, by decide +kernel⟩, List.mem_of_getElem? (i := 1418) (by decide +kernel), List.mem_of_getElem? (i := 1674) (by decide +kernel), List.mem_of_getElem? (i := 1675) (by decide +kernel)⟩
theorem lw_p71 : lw_okq (⟨"PupilPairsModel", "isPupil", "(I)Z"⟩, 22) := ⟨⟨by decide +kernel, by decide +kernel⟩, List.mem_of_getElem? (i := 1418) (by decide +kernel), List.mem_of_getElem? (i := 1682) (by decide +kernel), List.mem_of_getElem? (i := 1683) (by decide +kernel)⟩
theorem lw_p72 : lw_okq (⟨"PupilPairsModel", "mayBoth", "(II)Z"⟩, 22) := ⟨⟨by decide +kernel, by decide +kernel⟩, List.mem_of_getElem? (i := 1418) (by decide +kernel), List.mem_of_getElem? (i := 1690) (by decide +kernel), List.mem_of_getElem? (i := 1691) (by decide +kernel)⟩
theorem lw_p73 : lw_okq (⟨"PupilPairsModel", "mayPupil", "(I)Z"⟩, 22) := ⟨⟨by decide +kernel, by decide +kernel⟩, List.mem_of_getElem? (i := 1418) (by decide +kernel), List.mem_of_getElem? (i := 1698) (by decide +kernel), List.mem_of_getElem? (i := 1699) (by decide +kernel)⟩
theorem lw_p74 : lw_okq (⟨"PupilPairsModel", "why", "(II)I"⟩, 22) := ⟨⟨by decide +kernel, by decide +kernel⟩, List.mem_of_getElem? (i := 1418) (by decide +kernel), List.mem_of_getElem? (i := 1709) (by decide +kernel), List.mem_of_getElem? (i := 1710) (by decide +kernel)⟩
theorem lw_p75 : lw_okq (⟨"PupilPairsModel", "isSearch", "()Z"⟩, 22) := ⟨⟨by decide +kernel, by decide +kernel⟩, List.mem_of_getElem? (i := 1418) (by decide +kernel), List.mem_of_getElem? (i := 1717) (by decide +kernel), List.mem_of_getElem? (i := 1718) (by decide +kernel)⟩
theorem lw_p76 : lw_okq (⟨"PupilPairsModel", "labelled", "(I)I"⟩, 22) := ⟨⟨by decide +kernel, by decide +kernel⟩, List.mem_of_getElem? (i := 1418) (by decide +kernel), List.mem_of_getElem? (i := 1721) (by decide +kernel), List.mem_of_getElem? (i := 1722) (by decide +kernel)⟩
theorem lw_p77 : lw_okq (⟨"PupilPairsModel", "groupsOf", "(I)I"⟩, 22) := ⟨⟨by decide +kernel, by decide +kernel⟩, List.mem_of_getElem? (i := 1418) (by decide +kernel), List.mem_of_getElem? (i := 1725) (by decide +kernel), List.mem_of_getElem? (i := 1726) (by decide +kernel)⟩
theorem lw_p78 : lw_okq (⟨"PupilPairsModel", "groupOf", "(I)I"⟩, 22) := ⟨⟨by decide +kernel, by decide +kernel⟩, List.mem_of_getElem? (i := 1418) (by decide +kernel), List.mem_of_getElem? (i := 1729) (by decide +kernel), List.mem_of_getElem? (i := 1730) (by decide +kernel)⟩
theorem lw_p79 : lw_okq (⟨"PupilPairsModel", "ofSearch", "(II)I"⟩, 22) := ⟨⟨by decide +kernel, by decide +kernel⟩, List.mem_of_getElem? (i := 1418) (by decide +kernel), List.mem_of_getElem? (i := 1737) (by decide +kernel), List.mem_of_getElem? (i := 1738) (by decide +kernel)⟩
def lw_privs_5 : List (MethodName × Nat) := [(⟨"PupilPairsModel", "parts", "(I)V"⟩, 22), (⟨"PupilPairsModel", "back", "(I)I"⟩, 22), (⟨"PupilPairsModel", "mayTwo", "(ZZ)Z"⟩, 22), (⟨"PupilPairsModel", "friendships", "(Z)I"⟩, 22), (⟨"PupilPairsModel", "those", "(I)I"⟩, 22), (⟨"PupilPairsModel", "pairs", "()I"⟩, 22), (⟨"PupilPairsModel", "freeSet", "()I"⟩, 22), (⟨"PupilPairsModel", "isPupil", "(I)Z"⟩, 22), (⟨"PupilPairsModel", "mayBoth", "(II)Z"⟩, 22), (⟨"PupilPairsModel", "mayPupil", "(I)Z"⟩, 22), (⟨"PupilPairsModel", "why", "(II)I"⟩, 22), (⟨"PupilPairsModel", "isSearch", "()Z"⟩, 22), (⟨"PupilPairsModel", "labelled", "(I)I"⟩, 22), (⟨"PupilPairsModel", "groupsOf", "(I)I"⟩, 22), (⟨"PupilPairsModel", "groupOf", "(I)I"⟩, 22), (⟨"PupilPairsModel", "ofSearch", "(II)I"⟩, 22)]
theorem lw_r5 : ∀ q ∈ lw_privs_5, lw_okq q := List.forall_mem_cons.mpr ⟨lw_p64, List.forall_mem_cons.mpr ⟨lw_p65, List.forall_mem_cons.mpr ⟨lw_p66, List.forall_mem_cons.mpr ⟨lw_p67, List.forall_mem_cons.mpr ⟨lw_p68, List.forall_mem_cons.mpr ⟨lw_p69, List.forall_mem_cons.mpr ⟨lw_p70, List.forall_mem_cons.mpr ⟨lw_p71, List.forall_mem_cons.mpr ⟨lw_p72, List.forall_mem_cons.mpr ⟨lw_p73, List.forall_mem_cons.mpr ⟨lw_p74, List.forall_mem_cons.mpr ⟨lw_p75, List.forall_mem_cons.mpr ⟨lw_p76, List.forall_mem_cons.mpr ⟨lw_p77, List.forall_mem_cons.mpr ⟨lw_p78, List.forall_mem_cons.mpr ⟨lw_p79, fun _ h => absurd h List.not_mem_nil⟩⟩⟩⟩⟩⟩⟩⟩⟩⟩⟩⟩⟩⟩⟩⟩
theorem lw_p80 : lw_okq (⟨"PupilPairsModel", "mayLook", "()Z"⟩, 22) := ⟨⟨by decide +kernel, by decide +kernel⟩, List.mem_of_getElem? (i := 1418) (by decide +kernel), List.mem_of_getElem? (i := 1761) (by decide +kernel), List.mem_of_getElem? (i := 1762) (by decide +kernel)⟩
theorem lw_p81 : lw_okq (⟨"PupilPairsModel", "isGoing", "()Z"⟩, 22) := ⟨⟨by decide +kernel, by decide +kernel⟩, List.mem_of_getElem? (i := 1418) (by decide +kernel), List.mem_of_getElem? (i := 1769) (by decide +kernel), List.mem_of_getElem? (i := 1770) (by decide +kernel)⟩
theorem lw_p82 : lw_okq (⟨"PupilPairsModel", "asked", "()I"⟩, 22) := ⟨⟨by decide +kernel, by decide +kernel⟩, List.mem_of_getElem? (i := 1418) (by decide +kernel), List.mem_of_getElem? (i := 1773) (by decide +kernel), List.mem_of_getElem? (i := 1774) (by decide +kernel)⟩
theorem lw_p83 : lw_okq (⟨"PupilPairsModel", "wayOf", "(I)I"⟩, 22) := ⟨⟨by decide +kernel, by decide +kernel⟩, List.mem_of_getElem? (i := 1418) (by decide +kernel), List.mem_of_getElem? (i := 1781) (by decide +kernel), List.mem_of_getElem? (i := 1782) (by decide +kernel)⟩
theorem lw_p84 : lw_okq (⟨"PupilPairsModel", "onWay", "(II)I"⟩, 22) := ⟨⟨by decide +kernel, by decide +kernel⟩, List.mem_of_getElem? (i := 1418) (by decide +kernel), List.mem_of_getElem? (i := 1789) (by decide +kernel), List.mem_of_getElem? (i := 1790) (by decide +kernel)⟩
theorem lw_p85 : lw_okq (⟨"PupilPairsModel", "laysMost", "()I"⟩, 22) := ⟨⟨by decide +kernel, by decide +kernel⟩, List.mem_of_getElem? (i := 1418) (by decide +kernel), List.mem_of_getElem? (i := 1801) (by decide +kernel), List.mem_of_getElem? (i := 1802) (by decide +kernel)⟩
theorem lw_p86 : lw_okq (⟨"PupilPairsModel", "all", "()I"⟩, 22) := ⟨⟨by decide +kernel, by decide +kernel⟩, List.mem_of_getElem? (i := 1418) (by decide +kernel), List.mem_of_getElem? (i := 1805) (by decide +kernel), List.mem_of_getElem? (i := 1806) (by decide +kernel)⟩
theorem lw_p87 : lw_okq (⟨"PupilPairsModel", "countsSet", "(I)V"⟩, 22) := ⟨⟨by decide +kernel, by decide +kernel⟩, List.mem_of_getElem? (i := 1418) (by decide +kernel), List.mem_of_getElem? (i := 1809) (by decide +kernel), List.mem_of_getElem? (i := 1810) (by decide +kernel)⟩
theorem lw_p88 : lw_okq (⟨"PupilPairsModel", "looseSet", "()I"⟩, 22) := ⟨⟨by decide +kernel, by decide +kernel⟩, List.mem_of_getElem? (i := 1418) (by decide +kernel), List.mem_of_getElem? (i := 1825) (by decide +kernel), List.mem_of_getElem? (i := 1826) (by decide +kernel)⟩
theorem lw_p89 : lw_okq (⟨"PupilPairsModel", "without", "(I)I"⟩, 22) := ⟨⟨by decide +kernel, by decide +kernel⟩, List.mem_of_getElem? (i := 1418) (by decide +kernel), List.mem_of_getElem? (i := 1829) (by decide +kernel), List.mem_of_getElem? (i := 1830) (by decide +kernel)⟩
theorem lw_p90 : lw_okq (⟨"PupilPairsModel", "barrierOf", "(I)I"⟩, 22) := ⟨⟨by decide +kernel, by decide +kernel⟩, List.mem_of_getElem? (i := 1418) (by decide +kernel), List.mem_of_getElem? (i := 1837) (by decide +kernel), List.mem_of_getElem? (i := 1838) (by decide +kernel)⟩
theorem lw_p91 : lw_okq (⟨"PupilPairsModel", "oddMany", "(I)I"⟩, 22) := ⟨⟨by decide +kernel, by decide +kernel⟩, List.mem_of_getElem? (i := 1418) (by decide +kernel), List.mem_of_getElem? (i := 1849) (by decide +kernel), List.mem_of_getElem? (i := 1850) (by decide +kernel)⟩
theorem lw_p92 : lw_okq (⟨"PupilPairsModel", "oddAt", "(II)I"⟩, 22) := ⟨⟨by decide +kernel, by decide +kernel⟩, List.mem_of_getElem? (i := 1418) (by decide +kernel), List.mem_of_getElem? (i := 1853) (by decide +kernel), List.mem_of_getElem? (i := 1854) (by decide +kernel)⟩
theorem lw_p93 : lw_okq (⟨"PupilPairsModel", "oddFrom", "(II)I"⟩, 22) := ⟨⟨by decide +kernel, by decide +kernel⟩, List.mem_of_getElem? (i := 1418) (by decide +kernel), List.mem_of_getElem? (i := 1857) (by decide +kernel), List.mem_of_getElem? (i := 1858) (by decide +kernel)⟩
theorem lw_p94 : lw_okq (⟨"PupilPairsModel", "isOfPupils", "(I)Z"⟩, 22) := ⟨⟨by decide +kernel, by decide +kernel⟩, List.mem_of_getElem? (i := 1418) (by decide +kernel), List.mem_of_getElem? (i := 1873) (by decide +kernel), List.mem_of_getElem? (i := 1874) (by decide +kernel)⟩
theorem lw_p95 : lw_okq (⟨"PupilPairsModel", "oddParts", "(I)I"⟩, 22) := ⟨⟨by decide +kernel, by decide +kernel⟩, List.mem_of_getElem? (i := 1418) (by decide +kernel), List.mem_of_getElem? (i := 1877) (by decide +kernel), List.mem_of_getElem? (i := 1878) (by decide +kernel)⟩
def lw_privs_6 : List (MethodName × Nat) := [(⟨"PupilPairsModel", "mayLook", "()Z"⟩, 22), (⟨"PupilPairsModel", "isGoing", "()Z"⟩, 22), (⟨"PupilPairsModel", "asked", "()I"⟩, 22), (⟨"PupilPairsModel", "wayOf", "(I)I"⟩, 22), (⟨"PupilPairsModel", "onWay", "(II)I"⟩, 22), (⟨"PupilPairsModel", "laysMost", "()I"⟩, 22), (⟨"PupilPairsModel", "all", "()I"⟩, 22), (⟨"PupilPairsModel", "countsSet", "(I)V"⟩, 22), (⟨"PupilPairsModel", "looseSet", "()I"⟩, 22), (⟨"PupilPairsModel", "without", "(I)I"⟩, 22), (⟨"PupilPairsModel", "barrierOf", "(I)I"⟩, 22), (⟨"PupilPairsModel", "oddMany", "(I)I"⟩, 22), (⟨"PupilPairsModel", "oddAt", "(II)I"⟩, 22), (⟨"PupilPairsModel", "oddFrom", "(II)I"⟩, 22), (⟨"PupilPairsModel", "isOfPupils", "(I)Z"⟩, 22), (⟨"PupilPairsModel", "oddParts", "(I)I"⟩, 22)]
theorem lw_r6 : ∀ q ∈ lw_privs_6, lw_okq q := List.forall_mem_cons.mpr ⟨lw_p80, List.forall_mem_cons.mpr ⟨lw_p81, List.forall_mem_cons.mpr ⟨lw_p82, List.forall_mem_cons.mpr ⟨lw_p83, List.forall_mem_cons.mpr ⟨lw_p84, List.forall_mem_cons.mpr ⟨lw_p85, List.forall_mem_cons.mpr ⟨lw_p86, List.forall_mem_cons.mpr ⟨lw_p87, List.forall_mem_cons.mpr ⟨lw_p88, List.forall_mem_cons.mpr ⟨lw_p89, List.forall_mem_cons.mpr ⟨lw_p90, List.forall_mem_cons.mpr ⟨lw_p91, List.forall_mem_cons.mpr ⟨lw_p92, List.forall_mem_cons.mpr ⟨lw_p93, List.forall_mem_cons.mpr ⟨lw_p94, List.forall_mem_cons.mpr ⟨lw_p95, fun _ h => absurd h List.not_mem_nil⟩⟩⟩⟩⟩⟩⟩⟩⟩⟩⟩⟩⟩⟩⟩⟩
theorem lw_p96 : lw_okq (⟨"PupilPairsModel", "proves", "(I)Z"⟩, 22) := ⟨⟨by decide +kernel, by decide +kernel⟩, List.mem_of_getElem? (i := 1418) (by decide +kernel), List.mem_of_getElem? (i := 1885) (by decide +kernel), List.mem_of_getElem? (i := 1886) (by decide +kernel)⟩
theorem lw_p97 : lw_okq (⟨"PupilPairsModel", "isInSome", "(II)Z"⟩, 22) := ⟨⟨by decide +kernel, by decide +kernel⟩, List.mem_of_getElem? (i := 1418) (by decide +kernel), List.mem_of_getElem? (i := 1897) (by decide +kernel), List.mem_of_getElem? (i := 1898) (by decide +kernel)⟩
theorem lw_p98 : lw_okq (⟨"PupilPairsModel", "mostTurned", "(II)I"⟩, 22) := ⟨⟨by decide +kernel, by decide +kernel⟩, List.mem_of_getElem? (i := 1418) (by decide +kernel), List.mem_of_getElem? (i := 1905) (by decide +kernel), List.mem_of_getElem? (i := 1906) (by decide +kernel)⟩
theorem lw_p99 : lw_okq (⟨"PupilPairsModel", "mateIn", "(I)I"⟩, 22) := ⟨⟨by decide +kernel, by decide +kernel⟩, List.mem_of_getElem? (i := 1418) (by decide +kernel), List.mem_of_getElem? (i := 1917) (by decide +kernel), List.mem_of_getElem? (i := 1918) (by decide +kernel)⟩
theorem lw_p100 : lw_okq (⟨"PupilPairsModel", "mostWith", "(I)I"⟩, 22) := ⟨⟨by decide +kernel, by decide +kernel⟩, List.mem_of_getElem? (i := 1418) (by decide +kernel), List.mem_of_getElem? (i := 1936) (by decide +kernel), List.mem_of_getElem? (i := 1937) (by decide +kernel)⟩
theorem lw_p101 : lw_okq (⟨"PupilPairsModel", "begins", "(I)V"⟩, 22) := ⟨⟨by decide +kernel, by decide +kernel⟩, List.mem_of_getElem? (i := 1418) (by decide +kernel), List.mem_of_getElem? (i := 1952) (by decide +kernel), List.mem_of_getElem? (i := 1953) (by decide +kernel)⟩
theorem lw_p102 : lw_okq (⟨"PupilPairsModel", "labels", "(II)I"⟩, 22) := ⟨⟨by decide +kernel, by decide +kernel⟩, List.mem_of_getElem? (i := 1418) (by decide +kernel), List.mem_of_getElem? (i := 1956) (by decide +kernel), List.mem_of_getElem? (i := 1957) (by decide +kernel)⟩
theorem lw_p103 : lw_okq (⟨"PupilPairsModel", "adds", "(II)V"⟩, 22) := ⟨⟨by decide +kernel, by decide +kernel⟩, List.mem_of_getElem? (i := 1418) (by decide +kernel), List.mem_of_getElem? (i := 1960) (by decide +kernel), List.mem_of_getElem? (i := 1961) (by decide +kernel)⟩
theorem lw_p104 : lw_okq (⟨"PupilPairsModel", "comes", "(I)V"⟩, 22) := ⟨⟨by decide +kernel, by decide +kernel⟩, List.mem_of_getElem? (i := 1418) (by decide +kernel), List.mem_of_getElem? (i := 1964) (by decide +kernel), List.mem_of_getElem? (i := 1965) (by decide +kernel)⟩
theorem lw_p105 : lw_okq (⟨"PupilPairsModel", "runs", "()I"⟩, 22) := ⟨⟨by decide +kernel, by decide +kernel⟩, List.mem_of_getElem? (i := 1418) (by decide +kernel), List.mem_of_getElem? (i := 1968) (by decide +kernel), List.mem_of_getElem? (i := 1969) (by decide +kernel)⟩
theorem lw_p106 : lw_okq (⟨"PupilPairsModel", "steps", "()I"⟩, 22) := ⟨⟨by decide +kernel, by decide +kernel⟩, List.mem_of_getElem? (i := 1418) (by decide +kernel), List.mem_of_getElem? (i := 1972) (by decide +kernel), List.mem_of_getElem? (i := 1973) (by decide +kernel)⟩
theorem lw_p107 : lw_okq (⟨"PupilPairsModel", "leaves", "()I"⟩, 22) := ⟨⟨by decide +kernel, by decide +kernel⟩, List.mem_of_getElem? (i := 1418) (by decide +kernel), List.mem_of_getElem? (i := 1976) (by decide +kernel), List.mem_of_getElem? (i := 1977) (by decide +kernel)⟩
theorem lw_p108 : lw_okq (⟨"PupilPairsModel", "shrinks", "(II)I"⟩, 22) := ⟨⟨by decide +kernel, by decide +kernel⟩, List.mem_of_getElem? (i := 1418) (by decide +kernel), List.mem_of_getElem? (i := 1980) (by decide +kernel), List.mem_of_getElem? (i := 1981) (by decide +kernel)⟩
theorem lw_p109 : lw_okq (⟨"PupilPairsModel", "rowOf", "(I)I"⟩, 22) := ⟨⟨by decide +kernel, by decide +kernel⟩, List.mem_of_getElem? (i := 1418) (by decide +kernel), List.mem_of_getElem? (i := 1984) (by decide +kernel), List.mem_of_getElem? (i := 1985) (by decide +kernel)⟩
theorem lw_p110 : lw_okq (⟨"PupilPairsModel", "above", "(I)I"⟩, 22) := ⟨⟨by decide +kernel, by decide +kernel⟩, List.mem_of_getElem? (i := 1418) (by decide +kernel), List.mem_of_getElem? (i := 1988) (by decide +kernel), List.mem_of_getElem? (i := 1989) (by decide +kernel)⟩
theorem lw_p111 : lw_okq (⟨"PupilPairsModel", "basesUpTo", "(II)I"⟩, 22) := ⟨⟨by decide +kernel, by decide +kernel⟩, List.mem_of_getElem? (i := 1418) (by decide +kernel), List.mem_of_getElem? (i := 1992) (by decide +kernel), List.mem_of_getElem? (i := 1993) (by decide +kernel)⟩
def lw_privs_7 : List (MethodName × Nat) := [(⟨"PupilPairsModel", "proves", "(I)Z"⟩, 22), (⟨"PupilPairsModel", "isInSome", "(II)Z"⟩, 22), (⟨"PupilPairsModel", "mostTurned", "(II)I"⟩, 22), (⟨"PupilPairsModel", "mateIn", "(I)I"⟩, 22), (⟨"PupilPairsModel", "mostWith", "(I)I"⟩, 22), (⟨"PupilPairsModel", "begins", "(I)V"⟩, 22), (⟨"PupilPairsModel", "labels", "(II)I"⟩, 22), (⟨"PupilPairsModel", "adds", "(II)V"⟩, 22), (⟨"PupilPairsModel", "comes", "(I)V"⟩, 22), (⟨"PupilPairsModel", "runs", "()I"⟩, 22), (⟨"PupilPairsModel", "steps", "()I"⟩, 22), (⟨"PupilPairsModel", "leaves", "()I"⟩, 22), (⟨"PupilPairsModel", "shrinks", "(II)I"⟩, 22), (⟨"PupilPairsModel", "rowOf", "(I)I"⟩, 22), (⟨"PupilPairsModel", "above", "(I)I"⟩, 22), (⟨"PupilPairsModel", "basesUpTo", "(II)I"⟩, 22)]
theorem lw_r7 : ∀ q ∈ lw_privs_7, lw_okq q := List.forall_mem_cons.mpr ⟨lw_p96, List.forall_mem_cons.mpr ⟨lw_p97, List.forall_mem_cons.mpr ⟨lw_p98, List.forall_mem_cons.mpr ⟨lw_p99, List.forall_mem_cons.mpr ⟨lw_p100, List.forall_mem_cons.mpr ⟨lw_p101, List.forall_mem_cons.mpr ⟨lw_p102, List.forall_mem_cons.mpr ⟨lw_p103, List.forall_mem_cons.mpr ⟨lw_p104, List.forall_mem_cons.mpr ⟨lw_p105, List.forall_mem_cons.mpr ⟨lw_p106, List.forall_mem_cons.mpr ⟨lw_p107, List.forall_mem_cons.mpr ⟨lw_p108, List.forall_mem_cons.mpr ⟨lw_p109, List.forall_mem_cons.mpr ⟨lw_p110, List.forall_mem_cons.mpr ⟨lw_p111, fun _ h => absurd h List.not_mem_nil⟩⟩⟩⟩⟩⟩⟩⟩⟩⟩⟩⟩⟩⟩⟩⟩
theorem lw_p112 : lw_okq (⟨"PupilPairsModel", "bridges", "(III)I"⟩, 22) := ⟨⟨by decide +kernel, by decide +kernel⟩, List.mem_of_getElem? (i := 1418) (by decide +kernel), List.mem_of_getElem? (i := 1996) (by decide +kernel), List.mem_of_getElem? (i := 1997) (by decide +kernel)⟩
theorem lw_p113 : lw_okq (⟨"PupilPairsModel", "addsWay", "(II)V"⟩, 22) := ⟨⟨by decide +kernel, by decide +kernel⟩, List.mem_of_getElem? (i := 1418) (by decide +kernel), List.mem_of_getElem? (i := 2000) (by decide +kernel), List.mem_of_getElem? (i := 2001) (by decide +kernel)⟩
theorem lw_p114 : lw_okq (⟨"PupilPairsModel", "finds", "(II)I"⟩, 22) := ⟨⟨by decide +kernel, by decide +kernel⟩, List.mem_of_getElem? (i := 1418) (by decide +kernel), List.mem_of_getElem? (i := 2004) (by decide +kernel), List.mem_of_getElem? (i := 2005) (by decide +kernel)⟩
theorem lw_p115 : lw_okq (⟨"PupilPairsModel", "grows", "(II)I"⟩, 22) := ⟨⟨by decide +kernel, by decide +kernel⟩, List.mem_of_getElem? (i := 1418) (by decide +kernel), List.mem_of_getElem? (i := 2008) (by decide +kernel), List.mem_of_getElem? (i := 2009) (by decide +kernel)⟩
theorem lw_p116 : lw_okq (⟨"PupilPairsModel", "writesByte", "(I)V"⟩, 22) := ⟨⟨by decide +kernel, by decide +kernel⟩, List.mem_of_getElem? (i := 1418) (by decide +kernel), List.mem_of_getElem? (i := 2028) (by decide +kernel), List.mem_of_getElem? (i := 2029) (by decide +kernel)⟩
theorem lw_p117 : lw_okq (⟨"PupilPairsModel", "writesNumber", "(I)V"⟩, 22) := ⟨⟨by decide +kernel, by decide +kernel⟩, List.mem_of_getElem? (i := 1418) (by decide +kernel), List.mem_of_getElem? (i := 2032) (by decide +kernel), List.mem_of_getElem? (i := 2033) (by decide +kernel)⟩
theorem lw_p118 : lw_okq (⟨"PupilPairsModel", "writesGroup", "(II)V"⟩, 22) := ⟨⟨by decide +kernel, by decide +kernel⟩, List.mem_of_getElem? (i := 1418) (by decide +kernel), List.mem_of_getElem? (i := 2040) (by decide +kernel), List.mem_of_getElem? (i := 2041) (by decide +kernel)⟩
theorem lw_p119 : lw_okq (⟨"PupilPairsModel", "remembers", "()V"⟩, 22) := ⟨⟨by decide +kernel, by decide +kernel⟩, List.mem_of_getElem? (i := 1418) (by decide +kernel), List.mem_of_getElem? (i := 2056) (by decide +kernel), List.mem_of_getElem? (i := 2057) (by decide +kernel)⟩
theorem lw_p120 : lw_okq (⟨"PupilPairsModel", "endsSearch", "()V"⟩, 22) := ⟨⟨by decide +kernel, by decide +kernel⟩, List.mem_of_getElem? (i := 1418) (by decide +kernel), List.mem_of_getElem? (i := 2072) (by decide +kernel), List.mem_of_getElem? (i := 2073) (by decide +kernel)⟩
theorem lw_p121 : lw_okq (⟨"PupilPairsModel", "changes", "()V"⟩, 22) := ⟨⟨by decide +kernel, by decide +kernel⟩, List.mem_of_getElem? (i := 1418) (by decide +kernel), List.mem_of_getElem? (i := 2080) (by decide +kernel), List.mem_of_getElem? (i := 2081) (by decide +kernel)⟩
def lw_privs_8 : List (MethodName × Nat) := [(⟨"PupilPairsModel", "bridges", "(III)I"⟩, 22), (⟨"PupilPairsModel", "addsWay", "(II)V"⟩, 22), (⟨"PupilPairsModel", "finds", "(II)I"⟩, 22), (⟨"PupilPairsModel", "grows", "(II)I"⟩, 22), (⟨"PupilPairsModel", "writesByte", "(I)V"⟩, 22), (⟨"PupilPairsModel", "writesNumber", "(I)V"⟩, 22), (⟨"PupilPairsModel", "writesGroup", "(II)V"⟩, 22), (⟨"PupilPairsModel", "remembers", "()V"⟩, 22), (⟨"PupilPairsModel", "endsSearch", "()V"⟩, 22), (⟨"PupilPairsModel", "changes", "()V"⟩, 22)]
theorem lw_r8 : ∀ q ∈ lw_privs_8, lw_okq q := List.forall_mem_cons.mpr ⟨lw_p112, List.forall_mem_cons.mpr ⟨lw_p113, List.forall_mem_cons.mpr ⟨lw_p114, List.forall_mem_cons.mpr ⟨lw_p115, List.forall_mem_cons.mpr ⟨lw_p116, List.forall_mem_cons.mpr ⟨lw_p117, List.forall_mem_cons.mpr ⟨lw_p118, List.forall_mem_cons.mpr ⟨lw_p119, List.forall_mem_cons.mpr ⟨lw_p120, List.forall_mem_cons.mpr ⟨lw_p121, fun _ h => absurd h List.not_mem_nil⟩⟩⟩⟩⟩⟩⟩⟩⟩⟩
def lw_privs : List (MethodName × Nat) := lw_privs_1 ++ (lw_privs_2 ++ (lw_privs_3 ++ (lw_privs_4 ++ (lw_privs_5 ++ (lw_privs_6 ++ (lw_privs_7 ++ (lw_privs_8)))))))
def lw_tbl : List Cond := k2_sels lw_privs ++ tables_1
theorem lw_privs_ok : ∀ q ∈ lw_privs, lw_okq q := by
  show ∀ q ∈ lw_privs_1 ++ (lw_privs_2 ++ (lw_privs_3 ++ (lw_privs_4 ++ (lw_privs_5 ++ (lw_privs_6 ++ (lw_privs_7 ++ (lw_privs_8))))))), lw_okq q
  exact List.forall_mem_append.mpr ⟨lw_r1, List.forall_mem_append.mpr ⟨lw_r2, List.forall_mem_append.mpr ⟨lw_r3, List.forall_mem_append.mpr ⟨lw_r4, List.forall_mem_append.mpr ⟨lw_r5, List.forall_mem_append.mpr ⟨lw_r6, List.forall_mem_append.mpr ⟨lw_r7, lw_r8⟩⟩⟩⟩⟩⟩⟩
/-- the streams that the claim lets the run draw from -/
abbrev lw_cs : List Choice := [Jvm.Choice.named "NaN.bits"]
theorem lw_bits : nanBits ∈ lw_cs := by first | decide | exact List.mem_cons_self | simp [lw_cs, nanBits]
-- ===== end of PART A; then your names; then what follows =====
/-! ===== BEGIN printed: names, fields, word lists, decode rows ===== -/
def RX0 : String := "PupilPairs$MostTable"
def TX0 : u_T := fun k => match k with
  | 0 => ("PupilPairs$MostTable", "all", "I", false)
  | 1 => ("PupilPairs$MostTable", "rows", "[I", true)
  | 2 => ("PupilPairs$MostTable", "values", "[I", true)
  | 3 => ("PupilPairs$MostTable", "stamps", "[I", true)
  | _ => ("PupilPairs$MostTable", "stamp", "I", false)
def tyX0 : Nat → FieldType := fun k => match k with
  | 0 => .int
  | 1 => .array .int
  | 2 => .array .int
  | 3 => .array .int
  | _ => .int
abbrev wsX00 : List Cond := u_ws RX0 TX0 5
theorem nmX0 : ∀ a, a < 5 → ∀ b, b < 5 → a ≠ b → (TX0 a).2.1 ≠ (TX0 b).2.1 := by decide +kernel
theorem tyX0_ok : ∀ k, k < 5 → parseFieldDescriptor (TX0 k).2.2.1 = some (tyX0 k) := by decide +kernel
abbrev cX0_init : ByteArray := prog_2_method_1_code
def yX0_init : MethodName := ⟨RX0, "<init>", "()V"⟩
abbrev cX0_prepare : ByteArray := prog_2_method_2_code
def yX0_prepare : MethodName := ⟨RX0, "prepare", "(LPupilPairs$Pupils;I)V"⟩
abbrev cX0_pairs : ByteArray := prog_2_method_3_code
def yX0_pairs : MethodName := ⟨RX0, "pairs", "()I"⟩
abbrev cX0_freePupils : ByteArray := prog_2_method_4_code
def yX0_freePupils : MethodName := ⟨RX0, "freePupils", "()I"⟩
abbrev cX0_pairsBut : ByteArray := prog_2_method_5_code
def yX0_pairsBut : MethodName := ⟨RX0, "pairsBut", "(II)I"⟩
abbrev cX0_but : ByteArray := prog_2_method_6_code
def yX0_but : MethodName := ⟨RX0, "but", "(II)I"⟩
abbrev cX0_mostIn : ByteArray := prog_2_method_7_code
def yX0_mostIn : MethodName := ⟨RX0, "mostIn", "(I)I"⟩
abbrev cX0_pairingsIn : ByteArray := prog_2_method_8_code
def yX0_pairingsIn : MethodName := ⟨RX0, "pairingsIn", "(I)I"⟩
abbrev cX0_valueOf : ByteArray := prog_2_method_9_code
def yX0_valueOf : MethodName := ⟨RX0, "valueOf", "(LPupilPairs$MostTable;II)I"⟩
abbrev cX0_joined : ByteArray := prog_2_method_10_code
def yX0_joined : MethodName := ⟨RX0, "joined", "(II)I"⟩
abbrev cX0_rowOf : ByteArray := prog_2_method_11_code
def yX0_rowOf : MethodName := ⟨RX0, "rowOf", "(I)I"⟩
abbrev cX0_looseSet : ByteArray := prog_2_method_12_code
def yX0_looseSet : MethodName := ⟨RX0, "looseSet", "()I"⟩
abbrev cX0_barrierOf : ByteArray := prog_2_method_13_code
def yX0_barrierOf : MethodName := ⟨RX0, "barrierOf", "(I)I"⟩
abbrev cX0_isUsed : ByteArray := prog_2_method_14_code
def yX0_isUsed : MethodName := ⟨RX0, "isUsed", "(II)Z"⟩
abbrev cX0_isNeeded : ByteArray := prog_2_method_15_code
def yX0_isNeeded : MethodName := ⟨RX0, "isNeeded", "(II)Z"⟩
abbrev cX0_oddsWithout : ByteArray := prog_2_method_16_code
def yX0_oddsWithout : MethodName := ⟨RX0, "oddsWithout", "(I)I"⟩
abbrev cX0_proves : ByteArray := prog_2_method_17_code
def yX0_proves : MethodName := ⟨RX0, "proves", "(II)Z"⟩
abbrev cX0_firstMateIn : ByteArray := prog_2_method_18_code
def yX0_firstMateIn : MethodName := ⟨RX0, "firstMateIn", "(II)I"⟩
abbrev cX0_partsOf : ByteArray := prog_2_method_19_code
def yX0_partsOf : MethodName := ⟨RX0, "partsOf", "(IZ)I"⟩
abbrev cX0_firstPart : ByteArray := prog_2_method_20_code
def yX0_firstPart : MethodName := ⟨RX0, "firstPart", "(I)I"⟩
def RX1 : String := "PupilPairs$Parser"
def TX1 : u_T := fun k => match k with
  | 0 => ("PupilPairs$Parser", "buffer", "[B", true)
  | 1 => ("PupilPairs$Parser", "draft", "LPupilPairs$Pupils;", true)
  | 2 => ("PupilPairs$Parser", "length", "I", false)
  | 3 => ("PupilPairs$Parser", "error", "I", false)
  | 4 => ("PupilPairs$Parser", "errorAt", "I", false)
  | 5 => ("PupilPairs$Parser", "end", "I", false)
  | 6 => ("PupilPairs$Parser", "position", "I", false)
  | 7 => ("PupilPairs$Parser", "token", "I", false)
  | 8 => ("PupilPairs$Parser", "tokenStart", "I", false)
  | 9 => ("PupilPairs$Parser", "value", "I", false)
  | 10 => ("PupilPairs$Parser", "firstOfLine", "I", false)
  | 11 => ("PupilPairs$Parser", "latestOfLine", "I", false)
  | _ => ("PupilPairs$Parser", "setOfLine", "I", false)
def tyX1 : Nat → FieldType := fun k => match k with
  | 0 => .array .byte
  | 1 => .object "PupilPairs$Pupils"
  | 2 => .int
  | 3 => .int
  | 4 => .int
  | 5 => .int
  | 6 => .int
  | 7 => .int
  | 8 => .int
  | 9 => .int
  | 10 => .int
  | 11 => .int
  | _ => .int
abbrev wsX10 : List Cond := u_ws RX1 TX1 13
theorem nmX1 : ∀ a, a < 13 → ∀ b, b < 13 → a ≠ b → (TX1 a).2.1 ≠ (TX1 b).2.1 := by decide +kernel
theorem tyX1_ok : ∀ k, k < 13 → parseFieldDescriptor (TX1 k).2.2.1 = some (tyX1 k) := by decide +kernel
abbrev cX1_init : ByteArray := prog_3_method_1_code
def yX1_init : MethodName := ⟨RX1, "<init>", "()V"⟩
abbrev cX1_hasRoom : ByteArray := prog_3_method_2_code
def yX1_hasRoom : MethodName := ⟨RX1, "hasRoom", "()Z"⟩
abbrev cX1_appendWord : ByteArray := prog_3_method_3_code
def yX1_appendWord : MethodName := ⟨RX1, "appendWord", "(I)V"⟩
abbrev cX1_parse : ByteArray := prog_3_method_4_code
def yX1_parse : MethodName := ⟨RX1, "parse", "(I)Z"⟩
abbrev cX1_headError : ByteArray := prog_3_method_5_code
def yX1_headError : MethodName := ⟨RX1, "headError", "()I"⟩
abbrev cX1_lineError : ByteArray := prog_3_method_6_code
def yX1_lineError : MethodName := ⟨RX1, "lineError", "()I"⟩
abbrev cX1_lineSort : ByteArray := prog_3_method_7_code
def yX1_lineSort : MethodName := ⟨RX1, "lineSort", "()I"⟩
abbrev cX1_pupilError : ByteArray := prog_3_method_8_code
def yX1_pupilError : MethodName := ⟨RX1, "pupilError", "(II)I"⟩
abbrev cX1_takePupil : ByteArray := prog_3_method_9_code
def yX1_takePupil : MethodName := ⟨RX1, "takePupil", "(II)V"⟩
abbrev cX1_numberError : ByteArray := prog_3_method_10_code
def yX1_numberError : MethodName := ⟨RX1, "numberError", "(II)I"⟩
abbrev cX1_readToken : ByteArray := prog_3_method_11_code
def yX1_readToken : MethodName := ⟨RX1, "readToken", "()V"⟩
abbrev cX1_passRun : ByteArray := prog_3_method_12_code
def yX1_passRun : MethodName := ⟨RX1, "passRun", "(CC)V"⟩
abbrev cX1_numberOfToken : ByteArray := prog_3_method_13_code
def yX1_numberOfToken : MethodName := ⟨RX1, "numberOfToken", "()I"⟩
abbrev cX1_isWord : ByteArray := prog_3_method_14_code
def yX1_isWord : MethodName := ⟨RX1, "isWord", "(Ljava/lang/String;)Z"⟩
abbrev cX1_isBetween : ByteArray := prog_3_method_15_code
def yX1_isBetween : MethodName := ⟨RX1, "isBetween", "(ICC)Z"⟩
abbrev cX1_byteAt : ByteArray := prog_3_method_16_code
def yX1_byteAt : MethodName := ⟨RX1, "byteAt", "(I)I"⟩
def RX2 : String := "PupilPairs$Pupils"
def TX2 : u_T := fun k => match k with
  | 0 => ("PupilPairs$Pupils", "number", "I", false)
  | 1 => ("PupilPairs$Pupils", "rule", "I", false)
  | 2 => ("PupilPairs$Pupils", "kinds", "I", false)
  | 3 => ("PupilPairs$Pupils", "friendSets", "[I", true)
  | _ => ("PupilPairs$Pupils", "mates", "[I", true)
def tyX2 : Nat → FieldType := fun k => match k with
  | 0 => .int
  | 1 => .int
  | 2 => .int
  | 3 => .array .int
  | _ => .array .int
abbrev wsX20 : List Cond := u_ws RX2 TX2 5
theorem nmX2 : ∀ a, a < 5 → ∀ b, b < 5 → a ≠ b → (TX2 a).2.1 ≠ (TX2 b).2.1 := by decide +kernel
theorem tyX2_ok : ∀ k, k < 5 → parseFieldDescriptor (TX2 k).2.2.1 = some (tyX2 k) := by decide +kernel
abbrev cX2_init : ByteArray := prog_4_method_1_code
def yX2_init : MethodName := ⟨RX2, "<init>", "()V"⟩
abbrev cX2_clear : ByteArray := prog_4_method_2_code
def yX2_clear : MethodName := ⟨RX2, "clear", "()V"⟩
abbrev cX2_copyFrom : ByteArray := prog_4_method_3_code
def yX2_copyFrom : MethodName := ⟨RX2, "copyFrom", "(LPupilPairs$Pupils;)V"⟩
abbrev cX2_everybody : ByteArray := prog_4_method_4_code
def yX2_everybody : MethodName := ⟨RX2, "everybody", "()I"⟩
abbrev cX2_kindOf : ByteArray := prog_4_method_5_code
def yX2_kindOf : MethodName := ⟨RX2, "kindOf", "(I)I"⟩
abbrev cX2_turnKind : ByteArray := prog_4_method_6_code
def yX2_turnKind : MethodName := ⟨RX2, "turnKind", "(II)V"⟩
abbrev cX2_friendSet : ByteArray := prog_4_method_7_code
def yX2_friendSet : MethodName := ⟨RX2, "friendSet", "(I)I"⟩
abbrev cX2_setFriends : ByteArray := prog_4_method_8_code
def yX2_setFriends : MethodName := ⟨RX2, "setFriends", "(IIZ)V"⟩
abbrev cX2_ruleAllows : ByteArray := prog_4_method_9_code
def yX2_ruleAllows : MethodName := ⟨RX2, "ruleAllows", "(II)Z"⟩
abbrev cX2_allowedSet : ByteArray := prog_4_method_10_code
def yX2_allowedSet : MethodName := ⟨RX2, "allowedSet", "(I)I"⟩
abbrev cX2_allowedSetBy : ByteArray := prog_4_method_11_code
def yX2_allowedSetBy : MethodName := ⟨RX2, "allowedSetBy", "(II)I"⟩
abbrev cX2_friendships : ByteArray := prog_4_method_12_code
def yX2_friendships : MethodName := ⟨RX2, "friendships", "()I"⟩
abbrev cX2_allowedFriendships : ByteArray := prog_4_method_13_code
def yX2_allowedFriendships : MethodName := ⟨RX2, "allowedFriendships", "()I"⟩
abbrev cX2_mateOf : ByteArray := prog_4_method_14_code
def yX2_mateOf : MethodName := ⟨RX2, "mateOf", "(I)I"⟩
abbrev cX2_isFree : ByteArray := prog_4_method_15_code
def yX2_isFree : MethodName := ⟨RX2, "isFree", "(I)Z"⟩
abbrev cX2_pairCount : ByteArray := prog_4_method_16_code
def yX2_pairCount : MethodName := ⟨RX2, "pairCount", "()I"⟩
abbrev cX2_join : ByteArray := prog_4_method_17_code
def yX2_join : MethodName := ⟨RX2, "join", "(II)V"⟩
abbrev cX2_unjoin : ByteArray := prog_4_method_18_code
def yX2_unjoin : MethodName := ⟨RX2, "unjoin", "(I)V"⟩
abbrev cX2_partForbidden : ByteArray := prog_4_method_19_code
def yX2_partForbidden : MethodName := ⟨RX2, "partForbidden", "()I"⟩
abbrev cX2_turn : ByteArray := prog_4_method_20_code
def yX2_turn : MethodName := ⟨RX2, "turn", "(LPupilPairs$Ways;I)V"⟩
def RX3 : String := "PupilPairs$Search"
def TX3 : u_T := fun k => match k with
  | 0 => ("PupilPairs$Search", "status", "I", false)
  | 1 => ("PupilPairs$Search", "root", "I", false)
  | 2 => ("PupilPairs$Search", "steps", "I", false)
  | 3 => ("PupilPairs$Search", "blossomsMade", "I", false)
  | 4 => ("PupilPairs$Search", "outer", "I", false)
  | 5 => ("PupilPairs$Search", "inner", "I", false)
  | 6 => ("PupilPairs$Search", "queueBegin", "I", false)
  | 7 => ("PupilPairs$Search", "queueEnd", "I", false)
  | 8 => ("PupilPairs$Search", "askedFrom", "I", false)
  | 9 => ("PupilPairs$Search", "queue", "[I", true)
  | 10 => ("PupilPairs$Search", "bases", "[I", true)
  | 11 => ("PupilPairs$Search", "links", "[I", true)
  | 12 => ("PupilPairs$Search", "nearEnds", "[I", true)
  | 13 => ("PupilPairs$Search", "farEnds", "[I", true)
  | _ => ("PupilPairs$Search", "ways", "LPupilPairs$Ways;", true)
def tyX3 : Nat → FieldType := fun k => match k with
  | 0 => .int
  | 1 => .int
  | 2 => .int
  | 3 => .int
  | 4 => .int
  | 5 => .int
  | 6 => .int
  | 7 => .int
  | 8 => .int
  | 9 => .array .int
  | 10 => .array .int
  | 11 => .array .int
  | 12 => .array .int
  | 13 => .array .int
  | _ => .object "PupilPairs$Ways"
abbrev wsX30 : List Cond := u_ws RX3 TX3 15
theorem nmX3 : ∀ a, a < 15 → ∀ b, b < 15 → a ≠ b → (TX3 a).2.1 ≠ (TX3 b).2.1 := by decide +kernel
theorem tyX3_ok : ∀ k, k < 15 → parseFieldDescriptor (TX3 k).2.2.1 = some (tyX3 k) := by decide +kernel
abbrev cX3_init : ByteArray := prog_5_method_1_code
def yX3_init : MethodName := ⟨RX3, "<init>", "()V"⟩
abbrev cX3_begin : ByteArray := prog_5_method_2_code
def yX3_begin : MethodName := ⟨RX3, "begin", "(I)V"⟩
abbrev cX3_end : ByteArray := prog_5_method_3_code
def yX3_end : MethodName := ⟨RX3, "end", "()V"⟩
abbrev cX3_copyFrom : ByteArray := prog_5_method_4_code
def yX3_copyFrom : MethodName := ⟨RX3, "copyFrom", "(LPupilPairs$Search;)V"⟩
abbrev cX3_isTold : ByteArray := prog_5_method_5_code
def yX3_isTold : MethodName := ⟨RX3, "isTold", "()Z"⟩
abbrev cX3_labelOf : ByteArray := prog_5_method_6_code
def yX3_labelOf : MethodName := ⟨RX3, "labelOf", "(I)I"⟩
abbrev cX3_baseOf : ByteArray := prog_5_method_7_code
def yX3_baseOf : MethodName := ⟨RX3, "baseOf", "(I)I"⟩
abbrev cX3_groupWithBase : ByteArray := prog_5_method_8_code
def yX3_groupWithBase : MethodName := ⟨RX3, "groupWithBase", "(I)I"⟩
abbrev cX3_queueLength : ByteArray := prog_5_method_9_code
def yX3_queueLength : MethodName := ⟨RX3, "queueLength", "()I"⟩
abbrev cX3_inQueue : ByteArray := prog_5_method_10_code
def yX3_inQueue : MethodName := ⟨RX3, "inQueue", "(I)I"⟩
abbrev cX3_toldWayLength : ByteArray := prog_5_method_11_code
def yX3_toldWayLength : MethodName := ⟨RX3, "toldWayLength", "(I)I"⟩
abbrev cX3_askedNext : ByteArray := prog_5_method_12_code
def yX3_askedNext : MethodName := ⟨RX3, "askedNext", "(LPupilPairs$Pupils;)I"⟩
abbrev cX3_advance : ByteArray := prog_5_method_13_code
def yX3_advance : MethodName := ⟨RX3, "advance", "(LPupilPairs$Pupils;)I"⟩
abbrev cX3_leaveQueue : ByteArray := prog_5_method_14_code
def yX3_leaveQueue : MethodName := ⟨RX3, "leaveQueue", "()I"⟩
abbrev cX3_becomeOuter : ByteArray := prog_5_method_15_code
def yX3_becomeOuter : MethodName := ⟨RX3, "becomeOuter", "(I)V"⟩
abbrev cX3_grow : ByteArray := prog_5_method_16_code
def yX3_grow : MethodName := ⟨RX3, "grow", "(III)V"⟩
abbrev cX3_makeBlossom : ByteArray := prog_5_method_17_code
def yX3_makeBlossom : MethodName := ⟨RX3, "makeBlossom", "(LPupilPairs$Pupils;II)V"⟩
abbrev cX3_baseAbove : ByteArray := prog_5_method_18_code
def yX3_baseAbove : MethodName := ⟨RX3, "baseAbove", "(LPupilPairs$Pupils;I)I"⟩
abbrev cX3_meetingBase : ByteArray := prog_5_method_19_code
def yX3_meetingBase : MethodName := ⟨RX3, "meetingBase", "(LPupilPairs$Pupils;II)I"⟩
abbrev cX3_bridgeMates : ByteArray := prog_5_method_20_code
def yX3_bridgeMates : MethodName := ⟨RX3, "bridgeMates", "(LPupilPairs$Pupils;III)I"⟩
abbrev cX3_rowMembers : ByteArray := prog_5_method_21_code
def yX3_rowMembers : MethodName := ⟨RX3, "rowMembers", "(LPupilPairs$Pupils;II)I"⟩
def RX4 : String := "PupilPairs$State"
def TX4 : u_T := fun k => match k with
  | 0 => ("PupilPairs$State", "pupils", "LPupilPairs$Pupils;", true)
  | 1 => ("PupilPairs$State", "search", "LPupilPairs$Search;", true)
  | 2 => ("PupilPairs$State", "pairsMade", "I", false)
  | 3 => ("PupilPairs$State", "searchesFailed", "I", false)
  | 4 => ("PupilPairs$State", "blossomsMade", "I", false)
  | _ => ("PupilPairs$State", "pairsLost", "I", false)
def tyX4 : Nat → FieldType := fun k => match k with
  | 0 => .object "PupilPairs$Pupils"
  | 1 => .object "PupilPairs$Search"
  | 2 => .int
  | 3 => .int
  | 4 => .int
  | _ => .int
abbrev wsX40 : List Cond := u_ws RX4 TX4 6
theorem nmX4 : ∀ a, a < 6 → ∀ b, b < 6 → a ≠ b → (TX4 a).2.1 ≠ (TX4 b).2.1 := by decide +kernel
theorem tyX4_ok : ∀ k, k < 6 → parseFieldDescriptor (TX4 k).2.2.1 = some (tyX4 k) := by decide +kernel
abbrev cX4_init : ByteArray := prog_6_method_1_code
def yX4_init : MethodName := ⟨RX4, "<init>", "()V"⟩
abbrev cX4_startWith : ByteArray := prog_6_method_2_code
def yX4_startWith : MethodName := ⟨RX4, "startWith", "(LPupilPairs$Pupils;)V"⟩
abbrev cX4_copyFrom : ByteArray := prog_6_method_3_code
def yX4_copyFrom : MethodName := ⟨RX4, "copyFrom", "(LPupilPairs$State;)V"⟩
abbrev cX4_startFrom : ByteArray := prog_6_method_4_code
def yX4_startFrom : MethodName := ⟨RX4, "startFrom", "(LPupilPairs$Pupils;I)V"⟩
abbrev cX4_advance : ByteArray := prog_6_method_5_code
def yX4_advance : MethodName := ⟨RX4, "advance", "()I"⟩
abbrev cX4_runOut : ByteArray := prog_6_method_6_code
def yX4_runOut : MethodName := ⟨RX4, "runOut", "()I"⟩
abbrev cX4_addToSums : ByteArray := prog_6_method_7_code
def yX4_addToSums : MethodName := ⟨RX4, "addToSums", "(I)V"⟩
def RX5 : String := "PupilPairs$Text"
def TX5 : u_T := fun k => match k with
  | 0 => ("PupilPairs$Text", "bytes", "[B", true)
  | _ => ("PupilPairs$Text", "length", "I", false)
def tyX5 : Nat → FieldType := fun k => match k with
  | 0 => .array .byte
  | _ => .int
abbrev wsX50 : List Cond := u_ws RX5 TX5 2
theorem nmX5 : ∀ a, a < 2 → ∀ b, b < 2 → a ≠ b → (TX5 a).2.1 ≠ (TX5 b).2.1 := by decide +kernel
theorem tyX5_ok : ∀ k, k < 2 → parseFieldDescriptor (TX5 k).2.2.1 = some (tyX5 k) := by decide +kernel
abbrev cX5_init : ByteArray := prog_7_method_1_code
def yX5_init : MethodName := ⟨RX5, "<init>", "()V"⟩
abbrev cX5_clear : ByteArray := prog_7_method_2_code
def yX5_clear : MethodName := ⟨RX5, "clear", "()V"⟩
abbrev cX5_add : ByteArray := prog_7_method_3_code
def yX5_add : MethodName := ⟨RX5, "add", "(C)V"⟩
abbrev cX5_addNumber : ByteArray := prog_7_method_4_code
def yX5_addNumber : MethodName := ⟨RX5, "addNumber", "(I)V"⟩
abbrev cX5_addSet : ByteArray := prog_7_method_5_code
def yX5_addSet : MethodName := ⟨RX5, "addSet", "(I)V"⟩
abbrev cX5_separate : ByteArray := prog_7_method_6_code
def yX5_separate : MethodName := ⟨RX5, "separate", "(C)V"⟩
abbrev cX5_finish : ByteArray := prog_7_method_7_code
def yX5_finish : MethodName := ⟨RX5, "finish", "()I"⟩
def RX6 : String := "PupilPairs$Ways"
def TX6 : u_T := fun k => match k with
  | 0 => ("PupilPairs$Ways", "pupils", "[I", true)
  | _ => ("PupilPairs$Ways", "lengths", "[I", true)
def tyX6 : Nat → FieldType := fun k => match k with
  | 0 => .array .int
  | _ => .array .int
abbrev wsX60 : List Cond := u_ws RX6 TX6 2
theorem nmX6 : ∀ a, a < 2 → ∀ b, b < 2 → a ≠ b → (TX6 a).2.1 ≠ (TX6 b).2.1 := by decide +kernel
theorem tyX6_ok : ∀ k, k < 2 → parseFieldDescriptor (TX6 k).2.2.1 = some (tyX6 k) := by decide +kernel
abbrev cX6_init : ByteArray := prog_8_method_1_code
def yX6_init : MethodName := ⟨RX6, "<init>", "()V"⟩
abbrev cX6_clear : ByteArray := prog_8_method_2_code
def yX6_clear : MethodName := ⟨RX6, "clear", "()V"⟩
abbrev cX6_copyFrom : ByteArray := prog_8_method_3_code
def yX6_copyFrom : MethodName := ⟨RX6, "copyFrom", "(LPupilPairs$Ways;)V"⟩
abbrev cX6_lengthOf : ByteArray := prog_8_method_4_code
def yX6_lengthOf : MethodName := ⟨RX6, "lengthOf", "(I)I"⟩
abbrev cX6_pupilAt : ByteArray := prog_8_method_5_code
def yX6_pupilAt : MethodName := ⟨RX6, "pupilAt", "(II)I"⟩
abbrev cX6_add : ByteArray := prog_8_method_6_code
def yX6_add : MethodName := ⟨RX6, "add", "(II)V"⟩
abbrev cX6_addWayOf : ByteArray := prog_8_method_7_code
def yX6_addWayOf : MethodName := ⟨RX6, "addWayOf", "(II)V"⟩
abbrev cX6_addBack : ByteArray := prog_8_method_8_code
def yX6_addBack : MethodName := ⟨RX6, "addBack", "(II)V"⟩
def RX7 : String := "PupilPairs"
def TX7 : u_T := fun k => match k with
  | 0 => ("PupilPairs", "parser", "LPupilPairs$Parser;", true)
  | 1 => ("PupilPairs", "text", "LPupilPairs$Text;", true)
  | 2 => ("PupilPairs", "table", "LPupilPairs$MostTable;", true)
  | 3 => ("PupilPairs", "now", "LPupilPairs$State;", true)
  | 4 => ("PupilPairs", "trial", "LPupilPairs$State;", true)
  | 5 => ("PupilPairs", "earlier", "[LPupilPairs$State;", true)
  | 6 => ("PupilPairs", "saved", "[LPupilPairs$State;", true)
  | 7 => ("PupilPairs", "earlierEnd", "I", false)
  | 8 => ("PupilPairs", "earlierCount", "I", false)
  | 9 => ("PupilPairs", "savedSlots", "I", false)
  | _ => ("PupilPairs", "loaded", "Z", false)
def tyX7 : Nat → FieldType := fun k => match k with
  | 0 => .object "PupilPairs$Parser"
  | 1 => .object "PupilPairs$Text"
  | 2 => .object "PupilPairs$MostTable"
  | 3 => .object "PupilPairs$State"
  | 4 => .object "PupilPairs$State"
  | 5 => .array (.object "PupilPairs$State")
  | 6 => .array (.object "PupilPairs$State")
  | 7 => .int
  | 8 => .int
  | 9 => .int
  | _ => .boolean
abbrev wsX70 : List Cond := u_ws RX7 TX7 11
theorem nmX7 : ∀ a, a < 11 → ∀ b, b < 11 → a ≠ b → (TX7 a).2.1 ≠ (TX7 b).2.1 := by decide +kernel
theorem tyX7_ok : ∀ k, k < 11 → parseFieldDescriptor (TX7 k).2.2.1 = some (tyX7 k) := by decide +kernel
abbrev cX7_init : ByteArray := prog_1_method_1_code
def yX7_init : MethodName := ⟨RX7, "<init>", "()V"⟩
abbrev cX7_append : ByteArray := prog_1_method_2_code
def yX7_append : MethodName := ⟨RX7, "append", "(IIIII)I"⟩
abbrev cX7_load : ByteArray := prog_1_method_3_code
def yX7_load : MethodName := ⟨RX7, "load", "(I)I"⟩
abbrev cX7_parseError : ByteArray := prog_1_method_4_code
def yX7_parseError : MethodName := ⟨RX7, "parseError", "()I"⟩
abbrev cX7_errorPosition : ByteArray := prog_1_method_5_code
def yX7_errorPosition : MethodName := ⟨RX7, "errorPosition", "()I"⟩
abbrev cX7_buffered : ByteArray := prog_1_method_6_code
def yX7_buffered : MethodName := ⟨RX7, "buffered", "()I"⟩
abbrev cX7_count : ByteArray := prog_1_method_7_code
def yX7_count : MethodName := ⟨RX7, "count", "(I)I"⟩
abbrev cX7_pupil : ByteArray := prog_1_method_8_code
def yX7_pupil : MethodName := ⟨RX7, "pupil", "(II)I"⟩
abbrev cX7_friends : ByteArray := prog_1_method_9_code
def yX7_friends : MethodName := ⟨RX7, "friends", "(II)Z"⟩
abbrev cX7_friendAt : ByteArray := prog_1_method_10_code
def yX7_friendAt : MethodName := ⟨RX7, "friendAt", "(II)I"⟩
abbrev cX7_whyNot : ByteArray := prog_1_method_11_code
def yX7_whyNot : MethodName := ⟨RX7, "whyNot", "(II)I"⟩
abbrev cX7_obstacle : ByteArray := prog_1_method_12_code
def yX7_obstacle : MethodName := ⟨RX7, "obstacle", "(II)I"⟩
abbrev cX7_search : ByteArray := prog_1_method_13_code
def yX7_search : MethodName := ⟨RX7, "search", "(I)I"⟩
abbrev cX7_label : ByteArray := prog_1_method_14_code
def yX7_label : MethodName := ⟨RX7, "label", "(I)I"⟩
abbrev cX7_group : ByteArray := prog_1_method_15_code
def yX7_group : MethodName := ⟨RX7, "group", "(I)I"⟩
abbrev cX7_groupOf : ByteArray := prog_1_method_16_code
def yX7_groupOf : MethodName := ⟨RX7, "groupOf", "(I)I"⟩
abbrev cX7_base : ByteArray := prog_1_method_17_code
def yX7_base : MethodName := ⟨RX7, "base", "(I)I"⟩
abbrev cX7_link : ByteArray := prog_1_method_18_code
def yX7_link : MethodName := ⟨RX7, "link", "(I)I"⟩
abbrev cX7_bridge : ByteArray := prog_1_method_19_code
def yX7_bridge : MethodName := ⟨RX7, "bridge", "(IZ)I"⟩
abbrev cX7_queueAt : ByteArray := prog_1_method_20_code
def yX7_queueAt : MethodName := ⟨RX7, "queueAt", "(I)I"⟩
abbrev cX7_next : ByteArray := prog_1_method_21_code
def yX7_next : MethodName := ⟨RX7, "next", "()I"⟩
abbrev cX7_wayLength : ByteArray := prog_1_method_22_code
def yX7_wayLength : MethodName := ⟨RX7, "wayLength", "(I)I"⟩
abbrev cX7_wayAt : ByteArray := prog_1_method_23_code
def yX7_wayAt : MethodName := ⟨RX7, "wayAt", "(II)I"⟩
abbrev cX7_blossoms : ByteArray := prog_1_method_24_code
def yX7_blossoms : MethodName := ⟨RX7, "blossoms", "()I"⟩
abbrev cX7_groupsOfAtLeast : ByteArray := prog_1_method_25_code
def yX7_groupsOfAtLeast : MethodName := ⟨RX7, "groupsOfAtLeast", "(I)I"⟩
abbrev cX7_most : ByteArray := prog_1_method_26_code
def yX7_most : MethodName := ⟨RX7, "most", "()I"⟩
abbrev cX7_isMost : ByteArray := prog_1_method_27_code
def yX7_isMost : MethodName := ⟨RX7, "isMost", "()Z"⟩
abbrev cX7_deficit : ByteArray := prog_1_method_28_code
def yX7_deficit : MethodName := ⟨RX7, "deficit", "()I"⟩
abbrev cX7_loose : ByteArray := prog_1_method_29_code
def yX7_loose : MethodName := ⟨RX7, "loose", "()I"⟩
abbrev cX7_barrier : ByteArray := prog_1_method_30_code
def yX7_barrier : MethodName := ⟨RX7, "barrier", "()I"⟩
abbrev cX7_rest : ByteArray := prog_1_method_31_code
def yX7_rest : MethodName := ⟨RX7, "rest", "()I"⟩
abbrev cX7_oddSets : ByteArray := prog_1_method_32_code
def yX7_oddSets : MethodName := ⟨RX7, "oddSets", "()I"⟩
abbrev cX7_oddSet : ByteArray := prog_1_method_33_code
def yX7_oddSet : MethodName := ⟨RX7, "oddSet", "(I)I"⟩
abbrev cX7_proof : ByteArray := prog_1_method_34_code
def yX7_proof : MethodName := ⟨RX7, "proof", "()I"⟩
abbrev cX7_odds : ByteArray := prog_1_method_35_code
def yX7_odds : MethodName := ⟨RX7, "odds", "(I)I"⟩
abbrev cX7_isProof : ByteArray := prog_1_method_36_code
def yX7_isProof : MethodName := ⟨RX7, "isProof", "(I)Z"⟩
abbrev cX7_smallestProof : ByteArray := prog_1_method_37_code
def yX7_smallestProof : MethodName := ⟨RX7, "smallestProof", "()I"⟩
abbrev cX7_inSome : ByteArray := prog_1_method_38_code
def yX7_inSome : MethodName := ⟨RX7, "inSome", "(II)Z"⟩
abbrev cX7_inAll : ByteArray := prog_1_method_39_code
def yX7_inAll : MethodName := ⟨RX7, "inAll", "(II)Z"⟩
abbrev cX7_pairings : ByteArray := prog_1_method_40_code
def yX7_pairings : MethodName := ⟨RX7, "pairings", "()J"⟩
abbrev cX7_firstMate : ByteArray := prog_1_method_41_code
def yX7_firstMate : MethodName := ⟨RX7, "firstMate", "(I)I"⟩
abbrev cX7_mostWithout : ByteArray := prog_1_method_42_code
def yX7_mostWithout : MethodName := ⟨RX7, "mostWithout", "(I)I"⟩
abbrev cX7_mostIf : ByteArray := prog_1_method_43_code
def yX7_mostIf : MethodName := ⟨RX7, "mostIf", "(II)I"⟩
abbrev cX7_mostBy : ByteArray := prog_1_method_44_code
def yX7_mostBy : MethodName := ⟨RX7, "mostBy", "(I)I"⟩
abbrev cX7_bestRule : ByteArray := prog_1_method_45_code
def yX7_bestRule : MethodName := ⟨RX7, "bestRule", "()I"⟩
abbrev cX7_helps : ByteArray := prog_1_method_46_code
def yX7_helps : MethodName := ⟨RX7, "helps", "()I"⟩
abbrev cX7_wouldEnd : ByteArray := prog_1_method_47_code
def yX7_wouldEnd : MethodName := ⟨RX7, "wouldEnd", "(I)I"⟩
abbrev cX7_stepsTo : ByteArray := prog_1_method_48_code
def yX7_stepsTo : MethodName := ⟨RX7, "stepsTo", "(I)I"⟩
abbrev cX7_meanFriends : ByteArray := prog_1_method_49_code
def yX7_meanFriends : MethodName := ⟨RX7, "meanFriends", "()D"⟩
abbrev cX7_pairedShare : ByteArray := prog_1_method_50_code
def yX7_pairedShare : MethodName := ⟨RX7, "pairedShare", "()F"⟩
abbrev cX7_writePairs : ByteArray := prog_1_method_51_code
def yX7_writePairs : MethodName := ⟨RX7, "writePairs", "()I"⟩
abbrev cX7_writeGroups : ByteArray := prog_1_method_52_code
def yX7_writeGroups : MethodName := ⟨RX7, "writeGroups", "()I"⟩
abbrev cX7_writeWay : ByteArray := prog_1_method_53_code
def yX7_writeWay : MethodName := ⟨RX7, "writeWay", "(I)I"⟩
abbrev cX7_textByte : ByteArray := prog_1_method_54_code
def yX7_textByte : MethodName := ⟨RX7, "textByte", "(I)I"⟩
abbrev cX7_seek : ByteArray := prog_1_method_55_code
def yX7_seek : MethodName := ⟨RX7, "seek", "(I)I"⟩
abbrev cX7_step : ByteArray := prog_1_method_56_code
def yX7_step : MethodName := ⟨RX7, "step", "()I"⟩
abbrev cX7_run : ByteArray := prog_1_method_57_code
def yX7_run : MethodName := ⟨RX7, "run", "()I"⟩
abbrev cX7_fill : ByteArray := prog_1_method_58_code
def yX7_fill : MethodName := ⟨RX7, "fill", "()I"⟩
abbrev cX7_pair : ByteArray := prog_1_method_59_code
def yX7_pair : MethodName := ⟨RX7, "pair", "(II)I"⟩
abbrev cX7_part : ByteArray := prog_1_method_60_code
def yX7_part : MethodName := ⟨RX7, "part", "(I)I"⟩
abbrev cX7_flip : ByteArray := prog_1_method_61_code
def yX7_flip : MethodName := ⟨RX7, "flip", "(I)I"⟩
abbrev cX7_befriend : ByteArray := prog_1_method_62_code
def yX7_befriend : MethodName := ⟨RX7, "befriend", "(IIZ)I"⟩
abbrev cX7_setKind : ByteArray := prog_1_method_63_code
def yX7_setKind : MethodName := ⟨RX7, "setKind", "(II)I"⟩
abbrev cX7_setRule : ByteArray := prog_1_method_64_code
def yX7_setRule : MethodName := ⟨RX7, "setRule", "(I)I"⟩
abbrev cX7_undo : ByteArray := prog_1_method_65_code
def yX7_undo : MethodName := ⟨RX7, "undo", "()I"⟩
abbrev cX7_undoable : ByteArray := prog_1_method_66_code
def yX7_undoable : MethodName := ⟨RX7, "undoable", "()I"⟩
abbrev cX7_save : ByteArray := prog_1_method_67_code
def yX7_save : MethodName := ⟨RX7, "save", "(I)I"⟩
abbrev cX7_restore : ByteArray := prog_1_method_68_code
def yX7_restore : MethodName := ⟨RX7, "restore", "(I)I"⟩
abbrev cX7_needText : ByteArray := prog_1_method_69_code
def yX7_needText : MethodName := ⟨RX7, "needText", "()V"⟩
abbrev cX7_needPupil : ByteArray := prog_1_method_70_code
def yX7_needPupil : MethodName := ⟨RX7, "needPupil", "(I)V"⟩
abbrev cX7_needPupils : ByteArray := prog_1_method_71_code
def yX7_needPupils : MethodName := ⟨RX7, "needPupils", "(II)V"⟩
abbrev cX7_needRange : ByteArray := prog_1_method_72_code
def yX7_needRange : MethodName := ⟨RX7, "needRange", "(II)V"⟩
abbrev cX7_needSet : ByteArray := prog_1_method_73_code
def yX7_needSet : MethodName := ⟨RX7, "needSet", "(I)V"⟩
abbrev cX7_needSlot : ByteArray := prog_1_method_74_code
def yX7_needSlot : MethodName := ⟨RX7, "needSlot", "(I)V"⟩
abbrev cX7_needGoingSearch : ByteArray := prog_1_method_75_code
def yX7_needGoingSearch : MethodName := ⟨RX7, "needGoingSearch", "()V"⟩
abbrev cX7_keepForUndo : ByteArray := prog_1_method_76_code
def yX7_keepForUndo : MethodName := ⟨RX7, "keepForUndo", "()V"⟩
abbrev cX7_stateAt : ByteArray := prog_1_method_77_code
def yX7_stateAt : MethodName := ⟨RX7, "stateAt", "([LPupilPairs$State;I)LPupilPairs$State;"⟩
abbrev cX7_tableNow : ByteArray := prog_1_method_78_code
def yX7_tableNow : MethodName := ⟨RX7, "tableNow", "()LPupilPairs$MostTable;"⟩
abbrev cX7_bit : ByteArray := prog_1_method_79_code
def yX7_bit : MethodName := ⟨RX7, "bit", "(I)I"⟩
abbrev cX7_has : ByteArray := prog_1_method_80_code
def yX7_has : MethodName := ⟨RX7, "has", "(II)Z"⟩
abbrev cX7_smallestOf : ByteArray := prog_1_method_81_code
def yX7_smallestOf : MethodName := ⟨RX7, "smallestOf", "(I)I"⟩
abbrev cX7_isSmallest : ByteArray := prog_1_method_82_code
def yX7_isSmallest : MethodName := ⟨RX7, "isSmallest", "(II)Z"⟩
abbrev cX7_at : ByteArray := prog_1_method_83_code
def yX7_at : MethodName := ⟨RX7, "at", "([II)I"⟩
abbrev cX7_put : ByteArray := prog_1_method_84_code
def yX7_put : MethodName := ⟨RX7, "put", "([III)V"⟩
abbrev cX7_fillRow : ByteArray := prog_1_method_85_code
def yX7_fillRow : MethodName := ⟨RX7, "fillRow", "([II)V"⟩
abbrev cX7_copyRow : ByteArray := prog_1_method_86_code
def yX7_copyRow : MethodName := ⟨RX7, "copyRow", "([I[I)V"⟩
def RX8 : String := "PupilPairsModel"
def TX8 : u_T := fun k => match k with
  | 0 => ("PupilPairsModel", "thrown", "I", false)
  | 1 => ("PupilPairsModel", "now", "[I", true)
  | 2 => ("PupilPairsModel", "aside", "[I", true)
  | 3 => ("PupilPairsModel", "undos", "[I", true)
  | 4 => ("PupilPairsModel", "saved", "[I", true)
  | 5 => ("PupilPairsModel", "isSaved", "[Z", true)
  | 6 => ("PupilPairsModel", "isThere", "Z", false)
  | 7 => ("PupilPairsModel", "undoMany", "I", false)
  | 8 => ("PupilPairsModel", "buffer", "[B", true)
  | 9 => ("PupilPairsModel", "buffered", "I", false)
  | 10 => ("PupilPairsModel", "parseCode", "I", false)
  | 11 => ("PupilPairsModel", "parseAt", "I", false)
  | 12 => ("PupilPairsModel", "size", "I", false)
  | 13 => ("PupilPairsModel", "at", "I", false)
  | 14 => ("PupilPairsModel", "start", "I", false)
  | 15 => ("PupilPairsModel", "token", "I", false)
  | 16 => ("PupilPairsModel", "told", "I", false)
  | 17 => ("PupilPairsModel", "most", "[B", true)
  | 18 => ("PupilPairsModel", "ways", "[I", true)
  | 19 => ("PupilPairsModel", "may", "[I", true)
  | 20 => ("PupilPairsModel", "page", "[B", true)
  | _ => ("PupilPairsModel", "pageSize", "I", false)
def tyX8 : Nat → FieldType := fun k => match k with
  | 0 => .int
  | 1 => .array .int
  | 2 => .array .int
  | 3 => .array .int
  | 4 => .array .int
  | 5 => .array .boolean
  | 6 => .boolean
  | 7 => .int
  | 8 => .array .byte
  | 9 => .int
  | 10 => .int
  | 11 => .int
  | 12 => .int
  | 13 => .int
  | 14 => .int
  | 15 => .int
  | 16 => .int
  | 17 => .array .byte
  | 18 => .array .int
  | 19 => .array .int
  | 20 => .array .byte
  | _ => .int
abbrev wsX80 : List Cond := u_ws RX8 TX8 22
theorem nmX8 : ∀ a, a < 22 → ∀ b, b < 22 → a ≠ b → (TX8 a).2.1 ≠ (TX8 b).2.1 := by decide +kernel
theorem tyX8_ok : ∀ k, k < 22 → parseFieldDescriptor (TX8 k).2.2.1 = some (tyX8 k) := by decide +kernel
abbrev cX8_init : ByteArray := prog_10_method_1_code
def yX8_init : MethodName := ⟨RX8, "<init>", "()V"⟩
abbrev cX8_thrown : ByteArray := prog_10_method_2_code
def yX8_thrown : MethodName := ⟨RX8, "thrown", "()I"⟩
abbrev cX8_in : ByteArray := prog_10_method_3_code
def yX8_in : MethodName := ⟨RX8, "in", "(III)Z"⟩
abbrev cX8_one : ByteArray := prog_10_method_4_code
def yX8_one : MethodName := ⟨RX8, "one", "(Z)I"⟩
abbrev cX8_may : ByteArray := prog_10_method_5_code
def yX8_may : MethodName := ⟨RX8, "may", "(ZZZ)Z"⟩
abbrev cX8_mayTwo : ByteArray := prog_10_method_6_code
def yX8_mayTwo : MethodName := ⟨RX8, "mayTwo", "(ZZ)Z"⟩
abbrev cX8_lays : ByteArray := prog_10_method_7_code
def yX8_lays : MethodName := ⟨RX8, "lays", "([II[II)V"⟩
abbrev cX8_thinks : ByteArray := prog_10_method_8_code
def yX8_thinks : MethodName := ⟨RX8, "thinks", "()V"⟩
abbrev cX8_back : ByteArray := prog_10_method_9_code
def yX8_back : MethodName := ⟨RX8, "back", "(I)I"⟩
abbrev cX8_append : ByteArray := prog_10_method_10_code
def yX8_append : MethodName := ⟨RX8, "append", "(IIIII)I"⟩
abbrev cX8_four : ByteArray := prog_10_method_11_code
def yX8_four : MethodName := ⟨RX8, "four", "(I)V"⟩
abbrev cX8_parseError : ByteArray := prog_10_method_12_code
def yX8_parseError : MethodName := ⟨RX8, "parseError", "()I"⟩
abbrev cX8_errorPosition : ByteArray := prog_10_method_13_code
def yX8_errorPosition : MethodName := ⟨RX8, "errorPosition", "()I"⟩
abbrev cX8_buffered : ByteArray := prog_10_method_14_code
def yX8_buffered : MethodName := ⟨RX8, "buffered", "()I"⟩
abbrev cX8_isLetter : ByteArray := prog_10_method_15_code
def yX8_isLetter : MethodName := ⟨RX8, "isLetter", "(I)Z"⟩
abbrev cX8_isDigit : ByteArray := prog_10_method_16_code
def yX8_isDigit : MethodName := ⟨RX8, "isDigit", "(I)Z"⟩
abbrev cX8_goes : ByteArray := prog_10_method_17_code
def yX8_goes : MethodName := ⟨RX8, "goes", "()V"⟩
abbrev cX8_faults : ByteArray := prog_10_method_18_code
def yX8_faults : MethodName := ⟨RX8, "faults", "(I)V"⟩
abbrev cX8_is : ByteArray := prog_10_method_19_code
def yX8_is : MethodName := ⟨RX8, "is", "(I)Z"⟩
abbrev cX8_isWord : ByteArray := prog_10_method_20_code
def yX8_isWord : MethodName := ⟨RX8, "isWord", "(Ljava/lang/String;)Z"⟩
abbrev cX8_numberHere : ByteArray := prog_10_method_21_code
def yX8_numberHere : MethodName := ⟨RX8, "numberHere", "(II)I"⟩
abbrev cX8_number : ByteArray := prog_10_method_22_code
def yX8_number : MethodName := ⟨RX8, "number", "(II)I"⟩
abbrev cX8_pupilHere : ByteArray := prog_10_method_23_code
def yX8_pupilHere : MethodName := ⟨RX8, "pupilHere", "()I"⟩
abbrev cX8_readsPupil : ByteArray := prog_10_method_24_code
def yX8_readsPupil : MethodName := ⟨RX8, "readsPupil", "()I"⟩
abbrev cX8_readsKind : ByteArray := prog_10_method_25_code
def yX8_readsKind : MethodName := ⟨RX8, "readsKind", "()V"⟩
abbrev cX8_readsFriend : ByteArray := prog_10_method_26_code
def yX8_readsFriend : MethodName := ⟨RX8, "readsFriend", "(I)V"⟩
abbrev cX8_readsFriends : ByteArray := prog_10_method_27_code
def yX8_readsFriends : MethodName := ⟨RX8, "readsFriends", "()V"⟩
abbrev cX8_readsRing : ByteArray := prog_10_method_28_code
def yX8_readsRing : MethodName := ⟨RX8, "readsRing", "()V"⟩
abbrev cX8_readsPair : ByteArray := prog_10_method_29_code
def yX8_readsPair : MethodName := ⟨RX8, "readsPair", "()V"⟩
abbrev cX8_readsLine : ByteArray := prog_10_method_30_code
def yX8_readsLine : MethodName := ⟨RX8, "readsLine", "()V"⟩
abbrev cX8_readsText : ByteArray := prog_10_method_31_code
def yX8_readsText : MethodName := ⟨RX8, "readsText", "()V"⟩
abbrev cX8_load : ByteArray := prog_10_method_32_code
def yX8_load : MethodName := ⟨RX8, "load", "(I)I"⟩
abbrev cX8_has : ByteArray := prog_10_method_33_code
def yX8_has : MethodName := ⟨RX8, "has", "(II)Z"⟩
abbrev cX8_bits : ByteArray := prog_10_method_34_code
def yX8_bits : MethodName := ⟨RX8, "bits", "(I)I"⟩
abbrev cX8_lowest : ByteArray := prog_10_method_35_code
def yX8_lowest : MethodName := ⟨RX8, "lowest", "(I)I"⟩
abbrev cX8_isPupil : ByteArray := prog_10_method_36_code
def yX8_isPupil : MethodName := ⟨RX8, "isPupil", "(I)Z"⟩
abbrev cX8_all : ByteArray := prog_10_method_37_code
def yX8_all : MethodName := ⟨RX8, "all", "()I"⟩
abbrev cX8_mate : ByteArray := prog_10_method_38_code
def yX8_mate : MethodName := ⟨RX8, "mate", "(I)I"⟩
abbrev cX8_mates : ByteArray := prog_10_method_39_code
def yX8_mates : MethodName := ⟨RX8, "mates", "(II)V"⟩
abbrev cX8_parts : ByteArray := prog_10_method_40_code
def yX8_parts : MethodName := ⟨RX8, "parts", "(I)V"⟩
abbrev cX8_areFriends : ByteArray := prog_10_method_41_code
def yX8_areFriends : MethodName := ⟨RX8, "areFriends", "(II)Z"⟩
abbrev cX8_befriends : ByteArray := prog_10_method_42_code
def yX8_befriends : MethodName := ⟨RX8, "befriends", "(IIZ)V"⟩
abbrev cX8_isAllowed : ByteArray := prog_10_method_43_code
def yX8_isAllowed : MethodName := ⟨RX8, "isAllowed", "(II)Z"⟩
abbrev cX8_mayPair : ByteArray := prog_10_method_44_code
def yX8_mayPair : MethodName := ⟨RX8, "mayPair", "(II)Z"⟩
abbrev cX8_those : ByteArray := prog_10_method_45_code
def yX8_those : MethodName := ⟨RX8, "those", "(I)I"⟩
abbrev cX8_partsAll : ByteArray := prog_10_method_46_code
def yX8_partsAll : MethodName := ⟨RX8, "partsAll", "()I"⟩
abbrev cX8_friendships : ByteArray := prog_10_method_47_code
def yX8_friendships : MethodName := ⟨RX8, "friendships", "(Z)I"⟩
abbrev cX8_freeSet : ByteArray := prog_10_method_48_code
def yX8_freeSet : MethodName := ⟨RX8, "freeSet", "()I"⟩
abbrev cX8_pairs : ByteArray := prog_10_method_49_code
def yX8_pairs : MethodName := ⟨RX8, "pairs", "()I"⟩
abbrev cX8_count : ByteArray := prog_10_method_50_code
def yX8_count : MethodName := ⟨RX8, "count", "(I)I"⟩
abbrev cX8_mayPupil : ByteArray := prog_10_method_51_code
def yX8_mayPupil : MethodName := ⟨RX8, "mayPupil", "(I)Z"⟩
abbrev cX8_mayBoth : ByteArray := prog_10_method_52_code
def yX8_mayBoth : MethodName := ⟨RX8, "mayBoth", "(II)Z"⟩
abbrev cX8_pupil : ByteArray := prog_10_method_53_code
def yX8_pupil : MethodName := ⟨RX8, "pupil", "(II)I"⟩
abbrev cX8_friends : ByteArray := prog_10_method_54_code
def yX8_friends : MethodName := ⟨RX8, "friends", "(II)Z"⟩
abbrev cX8_friendAt : ByteArray := prog_10_method_55_code
def yX8_friendAt : MethodName := ⟨RX8, "friendAt", "(II)I"⟩
abbrev cX8_why : ByteArray := prog_10_method_56_code
def yX8_why : MethodName := ⟨RX8, "why", "(II)I"⟩
abbrev cX8_whyNot : ByteArray := prog_10_method_57_code
def yX8_whyNot : MethodName := ⟨RX8, "whyNot", "(II)I"⟩
abbrev cX8_labels : ByteArray := prog_10_method_58_code
def yX8_labels : MethodName := ⟨RX8, "labels", "(II)I"⟩
abbrev cX8_comes : ByteArray := prog_10_method_59_code
def yX8_comes : MethodName := ⟨RX8, "comes", "(I)V"⟩
abbrev cX8_onWay : ByteArray := prog_10_method_60_code
def yX8_onWay : MethodName := ⟨RX8, "onWay", "(II)I"⟩
abbrev cX8_adds : ByteArray := prog_10_method_61_code
def yX8_adds : MethodName := ⟨RX8, "adds", "(II)V"⟩
abbrev cX8_addsWay : ByteArray := prog_10_method_62_code
def yX8_addsWay : MethodName := ⟨RX8, "addsWay", "(II)V"⟩
abbrev cX8_begins : ByteArray := prog_10_method_63_code
def yX8_begins : MethodName := ⟨RX8, "begins", "(I)V"⟩
abbrev cX8_endsSearch : ByteArray := prog_10_method_64_code
def yX8_endsSearch : MethodName := ⟨RX8, "endsSearch", "()V"⟩
abbrev cX8_asked : ByteArray := prog_10_method_65_code
def yX8_asked : MethodName := ⟨RX8, "asked", "()I"⟩
abbrev cX8_leaves : ByteArray := prog_10_method_66_code
def yX8_leaves : MethodName := ⟨RX8, "leaves", "()I"⟩
abbrev cX8_finds : ByteArray := prog_10_method_67_code
def yX8_finds : MethodName := ⟨RX8, "finds", "(II)I"⟩
abbrev cX8_grows : ByteArray := prog_10_method_68_code
def yX8_grows : MethodName := ⟨RX8, "grows", "(II)I"⟩
abbrev cX8_above : ByteArray := prog_10_method_69_code
def yX8_above : MethodName := ⟨RX8, "above", "(I)I"⟩
abbrev cX8_rowOf : ByteArray := prog_10_method_70_code
def yX8_rowOf : MethodName := ⟨RX8, "rowOf", "(I)I"⟩
abbrev cX8_bridges : ByteArray := prog_10_method_71_code
def yX8_bridges : MethodName := ⟨RX8, "bridges", "(III)I"⟩
abbrev cX8_basesUpTo : ByteArray := prog_10_method_72_code
def yX8_basesUpTo : MethodName := ⟨RX8, "basesUpTo", "(II)I"⟩
abbrev cX8_shrinks : ByteArray := prog_10_method_73_code
def yX8_shrinks : MethodName := ⟨RX8, "shrinks", "(II)I"⟩
abbrev cX8_steps : ByteArray := prog_10_method_74_code
def yX8_steps : MethodName := ⟨RX8, "steps", "()I"⟩
abbrev cX8_isGoing : ByteArray := prog_10_method_75_code
def yX8_isGoing : MethodName := ⟨RX8, "isGoing", "()Z"⟩
abbrev cX8_runs : ByteArray := prog_10_method_76_code
def yX8_runs : MethodName := ⟨RX8, "runs", "()I"⟩
abbrev cX8_labelled : ByteArray := prog_10_method_77_code
def yX8_labelled : MethodName := ⟨RX8, "labelled", "(I)I"⟩
abbrev cX8_groupOf : ByteArray := prog_10_method_78_code
def yX8_groupOf : MethodName := ⟨RX8, "groupOf", "(I)I"⟩
abbrev cX8_groupsOf : ByteArray := prog_10_method_79_code
def yX8_groupsOf : MethodName := ⟨RX8, "groupsOf", "(I)I"⟩
abbrev cX8_isSearch : ByteArray := prog_10_method_80_code
def yX8_isSearch : MethodName := ⟨RX8, "isSearch", "()Z"⟩
abbrev cX8_search : ByteArray := prog_10_method_81_code
def yX8_search : MethodName := ⟨RX8, "search", "(I)I"⟩
abbrev cX8_ofSearch : ByteArray := prog_10_method_82_code
def yX8_ofSearch : MethodName := ⟨RX8, "ofSearch", "(II)I"⟩
abbrev cX8_label : ByteArray := prog_10_method_83_code
def yX8_label : MethodName := ⟨RX8, "label", "(I)I"⟩
abbrev cX8_group : ByteArray := prog_10_method_84_code
def yX8_group : MethodName := ⟨RX8, "group", "(I)I"⟩
abbrev cX8_base : ByteArray := prog_10_method_85_code
def yX8_base : MethodName := ⟨RX8, "base", "(I)I"⟩
abbrev cX8_link : ByteArray := prog_10_method_86_code
def yX8_link : MethodName := ⟨RX8, "link", "(I)I"⟩
abbrev cX8_bridge : ByteArray := prog_10_method_87_code
def yX8_bridge : MethodName := ⟨RX8, "bridge", "(IZ)I"⟩
abbrev cX8_mayLook : ByteArray := prog_10_method_88_code
def yX8_mayLook : MethodName := ⟨RX8, "mayLook", "()Z"⟩
abbrev cX8_queueAt : ByteArray := prog_10_method_89_code
def yX8_queueAt : MethodName := ⟨RX8, "queueAt", "(I)I"⟩
abbrev cX8_next : ByteArray := prog_10_method_90_code
def yX8_next : MethodName := ⟨RX8, "next", "()I"⟩
abbrev cX8_wayOf : ByteArray := prog_10_method_91_code
def yX8_wayOf : MethodName := ⟨RX8, "wayOf", "(I)I"⟩
abbrev cX8_wayLength : ByteArray := prog_10_method_92_code
def yX8_wayLength : MethodName := ⟨RX8, "wayLength", "(I)I"⟩
abbrev cX8_wayAt : ByteArray := prog_10_method_93_code
def yX8_wayAt : MethodName := ⟨RX8, "wayAt", "(II)I"⟩
abbrev cX8_blossoms : ByteArray := prog_10_method_94_code
def yX8_blossoms : MethodName := ⟨RX8, "blossoms", "()I"⟩
abbrev cX8_countsSet : ByteArray := prog_10_method_95_code
def yX8_countsSet : MethodName := ⟨RX8, "countsSet", "(I)V"⟩
abbrev cX8_laysMost : ByteArray := prog_10_method_96_code
def yX8_laysMost : MethodName := ⟨RX8, "laysMost", "()I"⟩
abbrev cX8_without : ByteArray := prog_10_method_97_code
def yX8_without : MethodName := ⟨RX8, "without", "(I)I"⟩
abbrev cX8_looseSet : ByteArray := prog_10_method_98_code
def yX8_looseSet : MethodName := ⟨RX8, "looseSet", "()I"⟩
abbrev cX8_barrierOf : ByteArray := prog_10_method_99_code
def yX8_barrierOf : MethodName := ⟨RX8, "barrierOf", "(I)I"⟩
abbrev cX8_oddFrom : ByteArray := prog_10_method_100_code
def yX8_oddFrom : MethodName := ⟨RX8, "oddFrom", "(II)I"⟩
abbrev cX8_oddAt : ByteArray := prog_10_method_101_code
def yX8_oddAt : MethodName := ⟨RX8, "oddAt", "(II)I"⟩
abbrev cX8_oddMany : ByteArray := prog_10_method_102_code
def yX8_oddMany : MethodName := ⟨RX8, "oddMany", "(I)I"⟩
abbrev cX8_most : ByteArray := prog_10_method_103_code
def yX8_most : MethodName := ⟨RX8, "most", "()I"⟩
abbrev cX8_isMost : ByteArray := prog_10_method_104_code
def yX8_isMost : MethodName := ⟨RX8, "isMost", "()Z"⟩
abbrev cX8_deficit : ByteArray := prog_10_method_105_code
def yX8_deficit : MethodName := ⟨RX8, "deficit", "()I"⟩
abbrev cX8_loose : ByteArray := prog_10_method_106_code
def yX8_loose : MethodName := ⟨RX8, "loose", "()I"⟩
abbrev cX8_barrier : ByteArray := prog_10_method_107_code
def yX8_barrier : MethodName := ⟨RX8, "barrier", "()I"⟩
abbrev cX8_rest : ByteArray := prog_10_method_108_code
def yX8_rest : MethodName := ⟨RX8, "rest", "()I"⟩
abbrev cX8_oddSets : ByteArray := prog_10_method_109_code
def yX8_oddSets : MethodName := ⟨RX8, "oddSets", "()I"⟩
abbrev cX8_oddSet : ByteArray := prog_10_method_110_code
def yX8_oddSet : MethodName := ⟨RX8, "oddSet", "(I)I"⟩
abbrev cX8_proof : ByteArray := prog_10_method_111_code
def yX8_proof : MethodName := ⟨RX8, "proof", "()I"⟩
abbrev cX8_oddParts : ByteArray := prog_10_method_112_code
def yX8_oddParts : MethodName := ⟨RX8, "oddParts", "(I)I"⟩
abbrev cX8_proves : ByteArray := prog_10_method_113_code
def yX8_proves : MethodName := ⟨RX8, "proves", "(I)Z"⟩
abbrev cX8_isOfPupils : ByteArray := prog_10_method_114_code
def yX8_isOfPupils : MethodName := ⟨RX8, "isOfPupils", "(I)Z"⟩
abbrev cX8_odds : ByteArray := prog_10_method_115_code
def yX8_odds : MethodName := ⟨RX8, "odds", "(I)I"⟩
abbrev cX8_isProof : ByteArray := prog_10_method_116_code
def yX8_isProof : MethodName := ⟨RX8, "isProof", "(I)Z"⟩
abbrev cX8_smallestProof : ByteArray := prog_10_method_117_code
def yX8_smallestProof : MethodName := ⟨RX8, "smallestProof", "()I"⟩
abbrev cX8_isInSome : ByteArray := prog_10_method_118_code
def yX8_isInSome : MethodName := ⟨RX8, "isInSome", "(II)Z"⟩
abbrev cX8_inSome : ByteArray := prog_10_method_119_code
def yX8_inSome : MethodName := ⟨RX8, "inSome", "(II)Z"⟩
abbrev cX8_mostTurned : ByteArray := prog_10_method_120_code
def yX8_mostTurned : MethodName := ⟨RX8, "mostTurned", "(II)I"⟩
abbrev cX8_inAll : ByteArray := prog_10_method_121_code
def yX8_inAll : MethodName := ⟨RX8, "inAll", "(II)Z"⟩
abbrev cX8_pairings : ByteArray := prog_10_method_122_code
def yX8_pairings : MethodName := ⟨RX8, "pairings", "()J"⟩
abbrev cX8_mateIn : ByteArray := prog_10_method_123_code
def yX8_mateIn : MethodName := ⟨RX8, "mateIn", "(I)I"⟩
abbrev cX8_firstMate : ByteArray := prog_10_method_124_code
def yX8_firstMate : MethodName := ⟨RX8, "firstMate", "(I)I"⟩
abbrev cX8_mostWithout : ByteArray := prog_10_method_125_code
def yX8_mostWithout : MethodName := ⟨RX8, "mostWithout", "(I)I"⟩
abbrev cX8_mostIf : ByteArray := prog_10_method_126_code
def yX8_mostIf : MethodName := ⟨RX8, "mostIf", "(II)I"⟩
abbrev cX8_isRule : ByteArray := prog_10_method_127_code
def yX8_isRule : MethodName := ⟨RX8, "isRule", "(I)Z"⟩
abbrev cX8_mostWith : ByteArray := prog_10_method_128_code
def yX8_mostWith : MethodName := ⟨RX8, "mostWith", "(I)I"⟩
abbrev cX8_mostBy : ByteArray := prog_10_method_129_code
def yX8_mostBy : MethodName := ⟨RX8, "mostBy", "(I)I"⟩
abbrev cX8_bestRule : ByteArray := prog_10_method_130_code
def yX8_bestRule : MethodName := ⟨RX8, "bestRule", "()I"⟩
abbrev cX8_helps : ByteArray := prog_10_method_131_code
def yX8_helps : MethodName := ⟨RX8, "helps", "()I"⟩
abbrev cX8_wouldEnd : ByteArray := prog_10_method_132_code
def yX8_wouldEnd : MethodName := ⟨RX8, "wouldEnd", "(I)I"⟩
abbrev cX8_stepsTo : ByteArray := prog_10_method_133_code
def yX8_stepsTo : MethodName := ⟨RX8, "stepsTo", "(I)I"⟩
abbrev cX8_meanFriends : ByteArray := prog_10_method_134_code
def yX8_meanFriends : MethodName := ⟨RX8, "meanFriends", "()D"⟩
abbrev cX8_pairedShare : ByteArray := prog_10_method_135_code
def yX8_pairedShare : MethodName := ⟨RX8, "pairedShare", "()F"⟩
abbrev cX8_writesByte : ByteArray := prog_10_method_136_code
def yX8_writesByte : MethodName := ⟨RX8, "writesByte", "(I)V"⟩
abbrev cX8_writesNumber : ByteArray := prog_10_method_137_code
def yX8_writesNumber : MethodName := ⟨RX8, "writesNumber", "(I)V"⟩
abbrev cX8_writePairs : ByteArray := prog_10_method_138_code
def yX8_writePairs : MethodName := ⟨RX8, "writePairs", "()I"⟩
abbrev cX8_writesGroup : ByteArray := prog_10_method_139_code
def yX8_writesGroup : MethodName := ⟨RX8, "writesGroup", "(II)V"⟩
abbrev cX8_writeGroups : ByteArray := prog_10_method_140_code
def yX8_writeGroups : MethodName := ⟨RX8, "writeGroups", "()I"⟩
abbrev cX8_writeWay : ByteArray := prog_10_method_141_code
def yX8_writeWay : MethodName := ⟨RX8, "writeWay", "(I)I"⟩
abbrev cX8_textByte : ByteArray := prog_10_method_142_code
def yX8_textByte : MethodName := ⟨RX8, "textByte", "(I)I"⟩
abbrev cX8_remembers : ByteArray := prog_10_method_143_code
def yX8_remembers : MethodName := ⟨RX8, "remembers", "()V"⟩
abbrev cX8_changes : ByteArray := prog_10_method_144_code
def yX8_changes : MethodName := ⟨RX8, "changes", "()V"⟩
abbrev cX8_seek : ByteArray := prog_10_method_145_code
def yX8_seek : MethodName := ⟨RX8, "seek", "(I)I"⟩
abbrev cX8_step : ByteArray := prog_10_method_146_code
def yX8_step : MethodName := ⟨RX8, "step", "()I"⟩
abbrev cX8_run : ByteArray := prog_10_method_147_code
def yX8_run : MethodName := ⟨RX8, "run", "()I"⟩
abbrev cX8_fill : ByteArray := prog_10_method_148_code
def yX8_fill : MethodName := ⟨RX8, "fill", "()I"⟩
abbrev cX8_pair : ByteArray := prog_10_method_149_code
def yX8_pair : MethodName := ⟨RX8, "pair", "(II)I"⟩
abbrev cX8_flip : ByteArray := prog_10_method_150_code
def yX8_flip : MethodName := ⟨RX8, "flip", "(I)I"⟩
abbrev cX8_part : ByteArray := prog_10_method_151_code
def yX8_part : MethodName := ⟨RX8, "part", "(I)I"⟩
abbrev cX8_befriend : ByteArray := prog_10_method_152_code
def yX8_befriend : MethodName := ⟨RX8, "befriend", "(IIZ)I"⟩
abbrev cX8_setKind : ByteArray := prog_10_method_153_code
def yX8_setKind : MethodName := ⟨RX8, "setKind", "(II)I"⟩
abbrev cX8_setRule : ByteArray := prog_10_method_154_code
def yX8_setRule : MethodName := ⟨RX8, "setRule", "(I)I"⟩
abbrev cX8_undo : ByteArray := prog_10_method_155_code
def yX8_undo : MethodName := ⟨RX8, "undo", "()I"⟩
abbrev cX8_undoable : ByteArray := prog_10_method_156_code
def yX8_undoable : MethodName := ⟨RX8, "undoable", "()I"⟩
abbrev cX8_save : ByteArray := prog_10_method_157_code
def yX8_save : MethodName := ⟨RX8, "save", "(I)I"⟩
abbrev cX8_restore : ByteArray := prog_10_method_158_code
def yX8_restore : MethodName := ⟨RX8, "restore", "(I)I"⟩
def RJ6 : String := "java/lang/Integer"
def TJ6 : u_T := fun k => match k with
  | _ => ("", "", "", false)
def tyJ6 : Nat → FieldType := fun k => match k with
  | _ => .int
abbrev wsJ60 : List Cond := u_ws RJ6 TJ6 0
theorem nmJ6 : ∀ a, a < 0 → ∀ b, b < 0 → a ≠ b → (TJ6 a).2.1 ≠ (TJ6 b).2.1 := by decide +kernel
theorem tyJ6_ok : ∀ k, k < 0 → parseFieldDescriptor (TJ6 k).2.2.1 = some (tyJ6 k) := by decide +kernel
abbrev cJ6_bitCount_0f7a4 : ByteArray := prog_15_method_49_code
def yJ6_bitCount_0f7a4 : MethodName := ⟨RJ6, "bitCount", "(I)I"⟩
def RJ9 : String := "java/lang/Math"
def TJ9 : u_T := fun k => match k with
  | _ => ("", "", "", false)
def tyJ9 : Nat → FieldType := fun k => match k with
  | _ => .int
abbrev wsJ90 : List Cond := u_ws RJ9 TJ9 0
theorem nmJ9 : ∀ a, a < 0 → ∀ b, b < 0 → a ≠ b → (TJ9 a).2.1 ≠ (TJ9 b).2.1 := by decide +kernel
theorem tyJ9_ok : ∀ k, k < 0 → parseFieldDescriptor (TJ9 k).2.2.1 = some (tyJ9 k) := by decide +kernel
abbrev cJ9_max_7cf53 : ByteArray := prog_16_method_65_code
def yJ9_max_7cf53 : MethodName := ⟨RJ9, "max", "(II)I"⟩
abbrev cJ9_min_7cf53 : ByteArray := prog_16_method_69_code
def yJ9_min_7cf53 : MethodName := ⟨RJ9, "min", "(II)I"⟩
def RJ0 : String := "java/lang/String"
def TJ0 : u_T := fun k => match k with
  | _ => ("", "", "", false)
def tyJ0 : Nat → FieldType := fun k => match k with
  | _ => .int
abbrev wsJ00 : List Cond := u_ws RJ0 TJ0 0
theorem nmJ0 : ∀ a, a < 0 → ∀ b, b < 0 → a ≠ b → (TJ0 a).2.1 ≠ (TJ0 b).2.1 := by decide +kernel
theorem tyJ0_ok : ∀ k, k < 0 → parseFieldDescriptor (TJ0 k).2.2.1 = some (tyJ0 k) := by decide +kernel
abbrev cJ0_length_8abf5 : ByteArray := prog_18_method_54_code
def yJ0_length_8abf5 : MethodName := ⟨RJ0, "length", "()I"⟩
abbrev cJ0_charAt_5068e : ByteArray := prog_18_method_56_code
def yJ0_charAt_5068e : MethodName := ⟨RJ0, "charAt", "(I)C"⟩
abbrev cJ0_coder_7d493 : ByteArray := prog_18_method_152_code
def yJ0_coder_7d493 : MethodName := ⟨RJ0, "coder", "()B"⟩
abbrev cJ0_isLatin1_aae02 : ByteArray := prog_18_method_154_code
def yJ0_isLatin1_aae02 : MethodName := ⟨RJ0, "isLatin1", "()Z"⟩
abbrev cJ0_checkIndex_df160 : ByteArray := prog_18_method_155_code
def yJ0_checkIndex_df160 : MethodName := ⟨RJ0, "checkIndex", "(II)V"⟩
def RJ1 : String := "java/lang/StringLatin1"
def TJ1 : u_T := fun k => match k with
  | _ => ("", "", "", false)
def tyJ1 : Nat → FieldType := fun k => match k with
  | _ => .int
abbrev wsJ10 : List Cond := u_ws RJ1 TJ1 0
theorem nmJ1 : ∀ a, a < 0 → ∀ b, b < 0 → a ≠ b → (TJ1 a).2.1 ≠ (TJ1 b).2.1 := by decide +kernel
theorem tyJ1_ok : ∀ k, k < 0 → parseFieldDescriptor (TJ1 k).2.2.1 = some (tyJ1 k) := by decide +kernel
abbrev cJ1_charAt_3b067 : ByteArray := prog_19_method_2_code
def yJ1_charAt_3b067 : MethodName := ⟨RJ1, "charAt", "([BI)C"⟩
def RJ2 : String := "java/lang/StringUTF16"
def TJ2 : u_T := fun k => match k with
  | _ => ("", "", "", false)
def tyJ2 : Nat → FieldType := fun k => match k with
  | _ => .int
abbrev wsJ20 : List Cond := u_ws RJ2 TJ2 0
theorem nmJ2 : ∀ a, a < 0 → ∀ b, b < 0 → a ≠ b → (TJ2 a).2.1 ≠ (TJ2 b).2.1 := by decide +kernel
theorem tyJ2_ok : ∀ k, k < 0 → parseFieldDescriptor (TJ2 k).2.2.1 = some (tyJ2 k) := by decide +kernel
abbrev cJ2_getChar_3b067 : ByteArray := prog_20_method_5_code
def yJ2_getChar_3b067 : MethodName := ⟨RJ2, "getChar", "([BI)C"⟩
abbrev cJ2_length_9d52b : ByteArray := prog_20_method_6_code
def yJ2_length_9d52b : MethodName := ⟨RJ2, "length", "([B)I"⟩
abbrev cJ2_charAt_3b067 : ByteArray := prog_20_method_83_code
def yJ2_charAt_3b067 : MethodName := ⟨RJ2, "charAt", "([BI)C"⟩
abbrev cJ2_checkIndex_2214a : ByteArray := prog_20_method_91_code
def yJ2_checkIndex_2214a : MethodName := ⟨RJ2, "checkIndex", "(I[B)V"⟩
def RJ10 : String := "java/lang/System"
def TJ10 : u_T := fun k => match k with
  | _ => ("", "", "", false)
def tyJ10 : Nat → FieldType := fun k => match k with
  | _ => .int
abbrev wsJ100 : List Cond := u_ws RJ10 TJ10 0
theorem nmJ10 : ∀ a, a < 0 → ∀ b, b < 0 → a ≠ b → (TJ10 a).2.1 ≠ (TJ10 b).2.1 := by decide +kernel
theorem tyJ10_ok : ∀ k, k < 0 → parseFieldDescriptor (TJ10 k).2.2.1 = some (tyJ10 k) := by decide +kernel
def RJ3 : String := "jdk/internal/util/Preconditions"
def TJ3 : u_T := fun k => match k with
  | _ => ("", "", "", false)
def tyJ3 : Nat → FieldType := fun k => match k with
  | _ => .int
abbrev wsJ30 : List Cond := u_ws RJ3 TJ3 0
theorem nmJ3 : ∀ a, a < 0 → ∀ b, b < 0 → a ≠ b → (TJ3 a).2.1 ≠ (TJ3 b).2.1 := by decide +kernel
theorem tyJ3_ok : ∀ k, k < 0 → parseFieldDescriptor (TJ3 k).2.2.1 = some (tyJ3 k) := by decide +kernel
abbrev cJ3_checkIndex_8e157 : ByteArray := prog_23_method_11_code
def yJ3_checkIndex_8e157 : MethodName := ⟨RJ3, "checkIndex", "(IILjava/util/function/BiFunction;)I"⟩
def RL : String := "PupilPairsLaw"
abbrev cL_load : ByteArray := method_3_code
def yL_load : MethodName := ⟨RL, "load", "(LPupilPairs;I[J)I"⟩
abbrev cL_count : ByteArray := method_4_code
def yL_count : MethodName := ⟨RL, "count", "(LPupilPairs;I[J)I"⟩
abbrev cL_pupil : ByteArray := method_5_code
def yL_pupil : MethodName := ⟨RL, "pupil", "(LPupilPairs;II[J)I"⟩
abbrev cL_friends : ByteArray := method_6_code
def yL_friends : MethodName := ⟨RL, "friends", "(LPupilPairs;II[J)I"⟩
abbrev cL_friendAt : ByteArray := method_7_code
def yL_friendAt : MethodName := ⟨RL, "friendAt", "(LPupilPairs;II[J)I"⟩
abbrev cL_whyNot : ByteArray := method_8_code
def yL_whyNot : MethodName := ⟨RL, "whyNot", "(LPupilPairs;II[J)I"⟩
abbrev cL_search : ByteArray := method_9_code
def yL_search : MethodName := ⟨RL, "search", "(LPupilPairs;I[J)I"⟩
abbrev cL_label : ByteArray := method_10_code
def yL_label : MethodName := ⟨RL, "label", "(LPupilPairs;I[J)I"⟩
abbrev cL_group : ByteArray := method_11_code
def yL_group : MethodName := ⟨RL, "group", "(LPupilPairs;I[J)I"⟩
abbrev cL_base : ByteArray := method_12_code
def yL_base : MethodName := ⟨RL, "base", "(LPupilPairs;I[J)I"⟩
abbrev cL_link : ByteArray := method_13_code
def yL_link : MethodName := ⟨RL, "link", "(LPupilPairs;I[J)I"⟩
abbrev cL_bridge : ByteArray := method_14_code
def yL_bridge : MethodName := ⟨RL, "bridge", "(LPupilPairs;IZ[J)I"⟩
abbrev cL_queueAt : ByteArray := method_15_code
def yL_queueAt : MethodName := ⟨RL, "queueAt", "(LPupilPairs;I[J)I"⟩
abbrev cL_next : ByteArray := method_16_code
def yL_next : MethodName := ⟨RL, "next", "(LPupilPairs;[J)I"⟩
abbrev cL_wayLength : ByteArray := method_17_code
def yL_wayLength : MethodName := ⟨RL, "wayLength", "(LPupilPairs;I[J)I"⟩
abbrev cL_wayAt : ByteArray := method_18_code
def yL_wayAt : MethodName := ⟨RL, "wayAt", "(LPupilPairs;II[J)I"⟩
abbrev cL_blossoms : ByteArray := method_19_code
def yL_blossoms : MethodName := ⟨RL, "blossoms", "(LPupilPairs;[J)I"⟩
abbrev cL_most : ByteArray := method_20_code
def yL_most : MethodName := ⟨RL, "most", "(LPupilPairs;[J)I"⟩
abbrev cL_isMost : ByteArray := method_21_code
def yL_isMost : MethodName := ⟨RL, "isMost", "(LPupilPairs;[J)I"⟩
abbrev cL_deficit : ByteArray := method_22_code
def yL_deficit : MethodName := ⟨RL, "deficit", "(LPupilPairs;[J)I"⟩
abbrev cL_loose : ByteArray := method_23_code
def yL_loose : MethodName := ⟨RL, "loose", "(LPupilPairs;[J)I"⟩
abbrev cL_barrier : ByteArray := method_24_code
def yL_barrier : MethodName := ⟨RL, "barrier", "(LPupilPairs;[J)I"⟩
abbrev cL_rest : ByteArray := method_25_code
def yL_rest : MethodName := ⟨RL, "rest", "(LPupilPairs;[J)I"⟩
abbrev cL_oddSets : ByteArray := method_26_code
def yL_oddSets : MethodName := ⟨RL, "oddSets", "(LPupilPairs;[J)I"⟩
abbrev cL_oddSet : ByteArray := method_27_code
def yL_oddSet : MethodName := ⟨RL, "oddSet", "(LPupilPairs;I[J)I"⟩
abbrev cL_proof : ByteArray := method_28_code
def yL_proof : MethodName := ⟨RL, "proof", "(LPupilPairs;[J)I"⟩
abbrev cL_odds : ByteArray := method_29_code
def yL_odds : MethodName := ⟨RL, "odds", "(LPupilPairs;I[J)I"⟩
abbrev cL_isProof : ByteArray := method_30_code
def yL_isProof : MethodName := ⟨RL, "isProof", "(LPupilPairs;I[J)I"⟩
abbrev cL_smallestProof : ByteArray := method_31_code
def yL_smallestProof : MethodName := ⟨RL, "smallestProof", "(LPupilPairs;[J)I"⟩
abbrev cL_inSome : ByteArray := method_32_code
def yL_inSome : MethodName := ⟨RL, "inSome", "(LPupilPairs;II[J)I"⟩
abbrev cL_inAll : ByteArray := method_33_code
def yL_inAll : MethodName := ⟨RL, "inAll", "(LPupilPairs;II[J)I"⟩
abbrev cL_pairings : ByteArray := method_34_code
def yL_pairings : MethodName := ⟨RL, "pairings", "(LPupilPairs;[J)I"⟩
abbrev cL_firstMate : ByteArray := method_35_code
def yL_firstMate : MethodName := ⟨RL, "firstMate", "(LPupilPairs;I[J)I"⟩
abbrev cL_mostWithout : ByteArray := method_36_code
def yL_mostWithout : MethodName := ⟨RL, "mostWithout", "(LPupilPairs;I[J)I"⟩
abbrev cL_mostIf : ByteArray := method_37_code
def yL_mostIf : MethodName := ⟨RL, "mostIf", "(LPupilPairs;II[J)I"⟩
abbrev cL_mostBy : ByteArray := method_38_code
def yL_mostBy : MethodName := ⟨RL, "mostBy", "(LPupilPairs;I[J)I"⟩
abbrev cL_bestRule : ByteArray := method_39_code
def yL_bestRule : MethodName := ⟨RL, "bestRule", "(LPupilPairs;[J)I"⟩
abbrev cL_helps : ByteArray := method_40_code
def yL_helps : MethodName := ⟨RL, "helps", "(LPupilPairs;[J)I"⟩
abbrev cL_wouldEnd : ByteArray := method_41_code
def yL_wouldEnd : MethodName := ⟨RL, "wouldEnd", "(LPupilPairs;I[J)I"⟩
abbrev cL_stepsTo : ByteArray := method_42_code
def yL_stepsTo : MethodName := ⟨RL, "stepsTo", "(LPupilPairs;I[J)I"⟩
abbrev cL_meanFriends : ByteArray := method_43_code
def yL_meanFriends : MethodName := ⟨RL, "meanFriends", "(LPupilPairs;[D)I"⟩
abbrev cL_pairedShare : ByteArray := method_44_code
def yL_pairedShare : MethodName := ⟨RL, "pairedShare", "(LPupilPairs;[D)I"⟩
abbrev cL_writePairs : ByteArray := method_45_code
def yL_writePairs : MethodName := ⟨RL, "writePairs", "(LPupilPairs;[J)I"⟩
abbrev cL_writeGroups : ByteArray := method_46_code
def yL_writeGroups : MethodName := ⟨RL, "writeGroups", "(LPupilPairs;[J)I"⟩
abbrev cL_writeWay : ByteArray := method_47_code
def yL_writeWay : MethodName := ⟨RL, "writeWay", "(LPupilPairs;I[J)I"⟩
abbrev cL_textByte : ByteArray := method_48_code
def yL_textByte : MethodName := ⟨RL, "textByte", "(LPupilPairs;I[J)I"⟩
abbrev cL_seek : ByteArray := method_49_code
def yL_seek : MethodName := ⟨RL, "seek", "(LPupilPairs;I[J)I"⟩
abbrev cL_step : ByteArray := method_50_code
def yL_step : MethodName := ⟨RL, "step", "(LPupilPairs;[J)I"⟩
abbrev cL_run : ByteArray := method_51_code
def yL_run : MethodName := ⟨RL, "run", "(LPupilPairs;[J)I"⟩
abbrev cL_fill : ByteArray := method_52_code
def yL_fill : MethodName := ⟨RL, "fill", "(LPupilPairs;[J)I"⟩
abbrev cL_pair : ByteArray := method_53_code
def yL_pair : MethodName := ⟨RL, "pair", "(LPupilPairs;II[J)I"⟩
abbrev cL_part : ByteArray := method_54_code
def yL_part : MethodName := ⟨RL, "part", "(LPupilPairs;I[J)I"⟩
abbrev cL_flip : ByteArray := method_55_code
def yL_flip : MethodName := ⟨RL, "flip", "(LPupilPairs;I[J)I"⟩
abbrev cL_befriend : ByteArray := method_56_code
def yL_befriend : MethodName := ⟨RL, "befriend", "(LPupilPairs;IIZ[J)I"⟩
abbrev cL_setKind : ByteArray := method_57_code
def yL_setKind : MethodName := ⟨RL, "setKind", "(LPupilPairs;II[J)I"⟩
abbrev cL_setRule : ByteArray := method_58_code
def yL_setRule : MethodName := ⟨RL, "setRule", "(LPupilPairs;I[J)I"⟩
abbrev cL_undo : ByteArray := method_59_code
def yL_undo : MethodName := ⟨RL, "undo", "(LPupilPairs;[J)I"⟩
abbrev cL_save : ByteArray := method_60_code
def yL_save : MethodName := ⟨RL, "save", "(LPupilPairs;I[J)I"⟩
abbrev cL_restore : ByteArray := method_61_code
def yL_restore : MethodName := ⟨RL, "restore", "(LPupilPairs;I[J)I"⟩
abbrev cL_law : ByteArray := code
def yL_law : MethodName := ⟨RL, "law", "([I)Z"⟩
abbrev vwCl : List vw_C := [(RX0, TX0, 5), (RX1, TX1, 13), (RX2, TX2, 5), (RX3, TX3, 15), (RX4, TX4, 6), (RX5, TX5, 2), (RX6, TX6, 2), (RX7, TX7, 11), (RX8, TX8, 22)]
