/-! A quicker reading of the law's bytes. -/
section QD
variable {c : ByteArray} {p : Nat}
theorem qy_u1 {b : UInt8} (h : c.data.toList[p]? = some b) : (Reader.u1 : Decoder Nat) c p = .ok (b.toNat, p + 1) := by
  obtain ⟨h1, h2⟩ := List.getElem?_eq_some_iff.mp h
  have h3 : p < c.size := h1
  have e : (Reader.u1 : Decoder Nat) c p = (dite (p < c.size) (fun h => (fun _ _ => Except.ok (c[p].toNat, p + 1) : Decoder Nat)) (fun _ => (throw (HasTruncated.truncated p) : Decoder Nat))) c p := rfl
  rw [e, dif_pos h3]
  show Except.ok (c[p].toNat, p + 1) = _
  rw [show c[p] = b from h2]
theorem qy_s1 {n q : Nat} (e : (Reader.u1 : Decoder Nat) c p = .ok (n, q)) : (Reader.s1 : Decoder Int) c p = .ok (Reader.signed 8 n, q) := by
  show Except.bind ((Reader.u1 : Decoder Nat) c p) _ = _
  rw [e]
  rfl
theorem qy_u2 {n k q r : Nat} (e : (Reader.u1 : Decoder Nat) c p = .ok (n, q)) (e1 : (Reader.u1 : Decoder Nat) c q = .ok (k, r)) : (Reader.u2 : Decoder Nat) c p = .ok (n * 256 + k, r) := by
  show Except.bind ((Reader.u1 : Decoder Nat) c p) _ = _
  rw [e]
  show Except.bind ((Reader.u1 : Decoder Nat) c q) _ = _
  rw [e1]
  rfl
theorem qy_s2 {n q : Nat} (e : (Reader.u2 : Decoder Nat) c p = .ok (n, q)) : (Reader.s2 : Decoder Int) c p = .ok (Reader.signed 16 n, q) := by
  show Except.bind ((Reader.u2 : Decoder Nat) c p) _ = _
  rw [e]
  rfl
theorem qy_3 (e : (Reader.u1 : Decoder Nat) c p = .ok (3, p + 1)) : decode c p = .ok (.iconst 0, 1) := by
  have e2 : Decoder.instr p c p = .ok (.iconst 0, p + 1) := by
    show Except.bind ((Reader.u1 : Decoder Nat) c p) _ = _
    rw [e]
    rfl
  show Except.bind (Decoder.instr p c p) _ = _
  rw [e2]
  show Except.ok (_, p + 1 - p) = _
  rw [Nat.add_sub_cancel_left]
theorem qy_4 (e : (Reader.u1 : Decoder Nat) c p = .ok (4, p + 1)) : decode c p = .ok (.iconst 1, 1) := by
  have e2 : Decoder.instr p c p = .ok (.iconst 1, p + 1) := by
    show Except.bind ((Reader.u1 : Decoder Nat) c p) _ = _
    rw [e]
    rfl
  show Except.bind (Decoder.instr p c p) _ = _
  rw [e2]
  show Except.ok (_, p + 1 - p) = _
  rw [Nat.add_sub_cancel_left]
theorem qy_5 (e : (Reader.u1 : Decoder Nat) c p = .ok (5, p + 1)) : decode c p = .ok (.iconst 2, 1) := by
  have e2 : Decoder.instr p c p = .ok (.iconst 2, p + 1) := by
    show Except.bind ((Reader.u1 : Decoder Nat) c p) _ = _
    rw [e]
    rfl
  show Except.bind (Decoder.instr p c p) _ = _
  rw [e2]
  show Except.ok (_, p + 1 - p) = _
  rw [Nat.add_sub_cancel_left]
theorem qy_6 (e : (Reader.u1 : Decoder Nat) c p = .ok (6, p + 1)) : decode c p = .ok (.iconst 3, 1) := by
  have e2 : Decoder.instr p c p = .ok (.iconst 3, p + 1) := by
    show Except.bind ((Reader.u1 : Decoder Nat) c p) _ = _
    rw [e]
    rfl
  show Except.bind (Decoder.instr p c p) _ = _
  rw [e2]
  show Except.ok (_, p + 1 - p) = _
  rw [Nat.add_sub_cancel_left]
theorem qy_7 (e : (Reader.u1 : Decoder Nat) c p = .ok (7, p + 1)) : decode c p = .ok (.iconst 4, 1) := by
  have e2 : Decoder.instr p c p = .ok (.iconst 4, p + 1) := by
    show Except.bind ((Reader.u1 : Decoder Nat) c p) _ = _
    rw [e]
    rfl
  show Except.bind (Decoder.instr p c p) _ = _
  rw [e2]
  show Except.ok (_, p + 1 - p) = _
  rw [Nat.add_sub_cancel_left]
theorem qy_8 (e : (Reader.u1 : Decoder Nat) c p = .ok (8, p + 1)) : decode c p = .ok (.iconst 5, 1) := by
  have e2 : Decoder.instr p c p = .ok (.iconst 5, p + 1) := by
    show Except.bind ((Reader.u1 : Decoder Nat) c p) _ = _
    rw [e]
    rfl
  show Except.bind (Decoder.instr p c p) _ = _
  rw [e2]
  show Except.ok (_, p + 1 - p) = _
  rw [Nat.add_sub_cancel_left]
theorem qy_9 (e : (Reader.u1 : Decoder Nat) c p = .ok (9, p + 1)) : decode c p = .ok (.lconst 0, 1) := by
  have e2 : Decoder.instr p c p = .ok (.lconst 0, p + 1) := by
    show Except.bind ((Reader.u1 : Decoder Nat) c p) _ = _
    rw [e]
    rfl
  show Except.bind (Decoder.instr p c p) _ = _
  rw [e2]
  show Except.ok (_, p + 1 - p) = _
  rw [Nat.add_sub_cancel_left]
theorem qy_10 (e : (Reader.u1 : Decoder Nat) c p = .ok (10, p + 1)) : decode c p = .ok (.lconst 1, 1) := by
  have e2 : Decoder.instr p c p = .ok (.lconst 1, p + 1) := by
    show Except.bind ((Reader.u1 : Decoder Nat) c p) _ = _
    rw [e]
    rfl
  show Except.bind (Decoder.instr p c p) _ = _
  rw [e2]
  show Except.ok (_, p + 1 - p) = _
  rw [Nat.add_sub_cancel_left]
theorem qy_42 (e : (Reader.u1 : Decoder Nat) c p = .ok (42, p + 1)) : decode c p = .ok (.aload_n 0, 1) := by
  have e2 : Decoder.instr p c p = .ok (.aload_n 0, p + 1) := by
    show Except.bind ((Reader.u1 : Decoder Nat) c p) _ = _
    rw [e]
    rfl
  show Except.bind (Decoder.instr p c p) _ = _
  rw [e2]
  show Except.ok (_, p + 1 - p) = _
  rw [Nat.add_sub_cancel_left]
theorem qy_43 (e : (Reader.u1 : Decoder Nat) c p = .ok (43, p + 1)) : decode c p = .ok (.aload_n 1, 1) := by
  have e2 : Decoder.instr p c p = .ok (.aload_n 1, p + 1) := by
    show Except.bind ((Reader.u1 : Decoder Nat) c p) _ = _
    rw [e]
    rfl
  show Except.bind (Decoder.instr p c p) _ = _
  rw [e2]
  show Except.ok (_, p + 1 - p) = _
  rw [Nat.add_sub_cancel_left]
theorem qy_44 (e : (Reader.u1 : Decoder Nat) c p = .ok (44, p + 1)) : decode c p = .ok (.aload_n 2, 1) := by
  have e2 : Decoder.instr p c p = .ok (.aload_n 2, p + 1) := by
    show Except.bind ((Reader.u1 : Decoder Nat) c p) _ = _
    rw [e]
    rfl
  show Except.bind (Decoder.instr p c p) _ = _
  rw [e2]
  show Except.ok (_, p + 1 - p) = _
  rw [Nat.add_sub_cancel_left]
theorem qy_45 (e : (Reader.u1 : Decoder Nat) c p = .ok (45, p + 1)) : decode c p = .ok (.aload_n 3, 1) := by
  have e2 : Decoder.instr p c p = .ok (.aload_n 3, p + 1) := by
    show Except.bind ((Reader.u1 : Decoder Nat) c p) _ = _
    rw [e]
    rfl
  show Except.bind (Decoder.instr p c p) _ = _
  rw [e2]
  show Except.ok (_, p + 1 - p) = _
  rw [Nat.add_sub_cancel_left]
theorem qy_46 (e : (Reader.u1 : Decoder Nat) c p = .ok (46, p + 1)) : decode c p = .ok (.iaload, 1) := by
  have e2 : Decoder.instr p c p = .ok (.iaload, p + 1) := by
    show Except.bind ((Reader.u1 : Decoder Nat) c p) _ = _
    rw [e]
    rfl
  show Except.bind (Decoder.instr p c p) _ = _
  rw [e2]
  show Except.ok (_, p + 1 - p) = _
  rw [Nat.add_sub_cancel_left]
theorem qy_47 (e : (Reader.u1 : Decoder Nat) c p = .ok (47, p + 1)) : decode c p = .ok (.laload, 1) := by
  have e2 : Decoder.instr p c p = .ok (.laload, p + 1) := by
    show Except.bind ((Reader.u1 : Decoder Nat) c p) _ = _
    rw [e]
    rfl
  show Except.bind (Decoder.instr p c p) _ = _
  rw [e2]
  show Except.ok (_, p + 1 - p) = _
  rw [Nat.add_sub_cancel_left]
theorem qy_49 (e : (Reader.u1 : Decoder Nat) c p = .ok (49, p + 1)) : decode c p = .ok (.daload, 1) := by
  have e2 : Decoder.instr p c p = .ok (.daload, p + 1) := by
    show Except.bind ((Reader.u1 : Decoder Nat) c p) _ = _
    rw [e]
    rfl
  show Except.bind (Decoder.instr p c p) _ = _
  rw [e2]
  show Except.ok (_, p + 1 - p) = _
  rw [Nat.add_sub_cancel_left]
theorem qy_96 (e : (Reader.u1 : Decoder Nat) c p = .ok (96, p + 1)) : decode c p = .ok (.iadd, 1) := by
  have e2 : Decoder.instr p c p = .ok (.iadd, p + 1) := by
    show Except.bind ((Reader.u1 : Decoder Nat) c p) _ = _
    rw [e]
    rfl
  show Except.bind (Decoder.instr p c p) _ = _
  rw [e2]
  show Except.ok (_, p + 1 - p) = _
  rw [Nat.add_sub_cancel_left]
theorem qy_100 (e : (Reader.u1 : Decoder Nat) c p = .ok (100, p + 1)) : decode c p = .ok (.isub, 1) := by
  have e2 : Decoder.instr p c p = .ok (.isub, p + 1) := by
    show Except.bind ((Reader.u1 : Decoder Nat) c p) _ = _
    rw [e]
    rfl
  show Except.bind (Decoder.instr p c p) _ = _
  rw [e2]
  show Except.ok (_, p + 1 - p) = _
  rw [Nat.add_sub_cancel_left]
theorem qy_126 (e : (Reader.u1 : Decoder Nat) c p = .ok (126, p + 1)) : decode c p = .ok (.iand, 1) := by
  have e2 : Decoder.instr p c p = .ok (.iand, p + 1) := by
    show Except.bind ((Reader.u1 : Decoder Nat) c p) _ = _
    rw [e]
    rfl
  show Except.bind (Decoder.instr p c p) _ = _
  rw [e2]
  show Except.ok (_, p + 1 - p) = _
  rw [Nat.add_sub_cancel_left]
theorem qy_133 (e : (Reader.u1 : Decoder Nat) c p = .ok (133, p + 1)) : decode c p = .ok (.i2l, 1) := by
  have e2 : Decoder.instr p c p = .ok (.i2l, p + 1) := by
    show Except.bind ((Reader.u1 : Decoder Nat) c p) _ = _
    rw [e]
    rfl
  show Except.bind (Decoder.instr p c p) _ = _
  rw [e2]
  show Except.ok (_, p + 1 - p) = _
  rw [Nat.add_sub_cancel_left]
theorem qy_141 (e : (Reader.u1 : Decoder Nat) c p = .ok (141, p + 1)) : decode c p = .ok (.f2d, 1) := by
  have e2 : Decoder.instr p c p = .ok (.f2d, p + 1) := by
    show Except.bind ((Reader.u1 : Decoder Nat) c p) _ = _
    rw [e]
    rfl
  show Except.bind (Decoder.instr p c p) _ = _
  rw [e2]
  show Except.ok (_, p + 1 - p) = _
  rw [Nat.add_sub_cancel_left]
theorem qy_148 (e : (Reader.u1 : Decoder Nat) c p = .ok (148, p + 1)) : decode c p = .ok (.lcmp, 1) := by
  have e2 : Decoder.instr p c p = .ok (.lcmp, p + 1) := by
    show Except.bind ((Reader.u1 : Decoder Nat) c p) _ = _
    rw [e]
    rfl
  show Except.bind (Decoder.instr p c p) _ = _
  rw [e2]
  show Except.ok (_, p + 1 - p) = _
  rw [Nat.add_sub_cancel_left]
theorem qy_149 (e : (Reader.u1 : Decoder Nat) c p = .ok (149, p + 1)) : decode c p = .ok (.fcmp .l, 1) := by
  have e2 : Decoder.instr p c p = .ok (.fcmp .l, p + 1) := by
    show Except.bind ((Reader.u1 : Decoder Nat) c p) _ = _
    rw [e]
    rfl
  show Except.bind (Decoder.instr p c p) _ = _
  rw [e2]
  show Except.ok (_, p + 1 - p) = _
  rw [Nat.add_sub_cancel_left]
theorem qy_151 (e : (Reader.u1 : Decoder Nat) c p = .ok (151, p + 1)) : decode c p = .ok (.dcmp .l, 1) := by
  have e2 : Decoder.instr p c p = .ok (.dcmp .l, p + 1) := by
    show Except.bind ((Reader.u1 : Decoder Nat) c p) _ = _
    rw [e]
    rfl
  show Except.bind (Decoder.instr p c p) _ = _
  rw [e2]
  show Except.ok (_, p + 1 - p) = _
  rw [Nat.add_sub_cancel_left]
theorem qy_172 (e : (Reader.u1 : Decoder Nat) c p = .ok (172, p + 1)) : decode c p = .ok (.ireturn, 1) := by
  have e2 : Decoder.instr p c p = .ok (.ireturn, p + 1) := by
    show Except.bind ((Reader.u1 : Decoder Nat) c p) _ = _
    rw [e]
    rfl
  show Except.bind (Decoder.instr p c p) _ = _
  rw [e2]
  show Except.ok (_, p + 1 - p) = _
  rw [Nat.add_sub_cancel_left]
theorem qy_190 (e : (Reader.u1 : Decoder Nat) c p = .ok (190, p + 1)) : decode c p = .ok (.arraylength, 1) := by
  have e2 : Decoder.instr p c p = .ok (.arraylength, p + 1) := by
    show Except.bind ((Reader.u1 : Decoder Nat) c p) _ = _
    rw [e]
    rfl
  show Except.bind (Decoder.instr p c p) _ = _
  rw [e2]
  show Except.ok (_, p + 1 - p) = _
  rw [Nat.add_sub_cancel_left]
theorem qy_16 {v : Int} (e : (Reader.u1 : Decoder Nat) c p = .ok (16, p + 1)) (e1 : (Reader.s1 : Decoder Int) c (p + 1) = .ok (v, p + 2)) : decode c p = .ok (.bipush v, 2) := by
  have e2 : Decoder.instr p c p = .ok (.bipush v, p + 2) := by
    show Except.bind ((Reader.u1 : Decoder Nat) c p) _ = _
    rw [e]
    show Except.bind ((Reader.s1 : Decoder Int) c (p + 1)) _ = _
    rw [e1]
    rfl
  show Except.bind (Decoder.instr p c p) _ = _
  rw [e2]
  show Except.ok (_, p + 2 - p) = _
  rw [Nat.add_sub_cancel_left]
theorem qy_21 {v : Nat} (e : (Reader.u1 : Decoder Nat) c p = .ok (21, p + 1)) (e1 : (Reader.u1 : Decoder Nat) c (p + 1) = .ok (v, p + 2)) : decode c p = .ok (.iload v, 2) := by
  have e2 : Decoder.instr p c p = .ok (.iload v, p + 2) := by
    show Except.bind ((Reader.u1 : Decoder Nat) c p) _ = _
    rw [e]
    show Except.bind ((Reader.u1 : Decoder Nat) c (p + 1)) _ = _
    rw [e1]
    rfl
  show Except.bind (Decoder.instr p c p) _ = _
  rw [e2]
  show Except.ok (_, p + 2 - p) = _
  rw [Nat.add_sub_cancel_left]
theorem qy_22 {v : Nat} (e : (Reader.u1 : Decoder Nat) c p = .ok (22, p + 1)) (e1 : (Reader.u1 : Decoder Nat) c (p + 1) = .ok (v, p + 2)) : decode c p = .ok (.lload v, 2) := by
  have e2 : Decoder.instr p c p = .ok (.lload v, p + 2) := by
    show Except.bind ((Reader.u1 : Decoder Nat) c p) _ = _
    rw [e]
    show Except.bind ((Reader.u1 : Decoder Nat) c (p + 1)) _ = _
    rw [e1]
    rfl
  show Except.bind (Decoder.instr p c p) _ = _
  rw [e2]
  show Except.ok (_, p + 2 - p) = _
  rw [Nat.add_sub_cancel_left]
theorem qy_23 {v : Nat} (e : (Reader.u1 : Decoder Nat) c p = .ok (23, p + 1)) (e1 : (Reader.u1 : Decoder Nat) c (p + 1) = .ok (v, p + 2)) : decode c p = .ok (.fload v, 2) := by
  have e2 : Decoder.instr p c p = .ok (.fload v, p + 2) := by
    show Except.bind ((Reader.u1 : Decoder Nat) c p) _ = _
    rw [e]
    show Except.bind ((Reader.u1 : Decoder Nat) c (p + 1)) _ = _
    rw [e1]
    rfl
  show Except.bind (Decoder.instr p c p) _ = _
  rw [e2]
  show Except.ok (_, p + 2 - p) = _
  rw [Nat.add_sub_cancel_left]
theorem qy_24 {v : Nat} (e : (Reader.u1 : Decoder Nat) c p = .ok (24, p + 1)) (e1 : (Reader.u1 : Decoder Nat) c (p + 1) = .ok (v, p + 2)) : decode c p = .ok (.dload v, 2) := by
  have e2 : Decoder.instr p c p = .ok (.dload v, p + 2) := by
    show Except.bind ((Reader.u1 : Decoder Nat) c p) _ = _
    rw [e]
    show Except.bind ((Reader.u1 : Decoder Nat) c (p + 1)) _ = _
    rw [e1]
    rfl
  show Except.bind (Decoder.instr p c p) _ = _
  rw [e2]
  show Except.ok (_, p + 2 - p) = _
  rw [Nat.add_sub_cancel_left]
theorem qy_25 {v : Nat} (e : (Reader.u1 : Decoder Nat) c p = .ok (25, p + 1)) (e1 : (Reader.u1 : Decoder Nat) c (p + 1) = .ok (v, p + 2)) : decode c p = .ok (.aload v, 2) := by
  have e2 : Decoder.instr p c p = .ok (.aload v, p + 2) := by
    show Except.bind ((Reader.u1 : Decoder Nat) c p) _ = _
    rw [e]
    show Except.bind ((Reader.u1 : Decoder Nat) c (p + 1)) _ = _
    rw [e1]
    rfl
  show Except.bind (Decoder.instr p c p) _ = _
  rw [e2]
  show Except.ok (_, p + 2 - p) = _
  rw [Nat.add_sub_cancel_left]
theorem qy_54 {v : Nat} (e : (Reader.u1 : Decoder Nat) c p = .ok (54, p + 1)) (e1 : (Reader.u1 : Decoder Nat) c (p + 1) = .ok (v, p + 2)) : decode c p = .ok (.istore v, 2) := by
  have e2 : Decoder.instr p c p = .ok (.istore v, p + 2) := by
    show Except.bind ((Reader.u1 : Decoder Nat) c p) _ = _
    rw [e]
    show Except.bind ((Reader.u1 : Decoder Nat) c (p + 1)) _ = _
    rw [e1]
    rfl
  show Except.bind (Decoder.instr p c p) _ = _
  rw [e2]
  show Except.ok (_, p + 2 - p) = _
  rw [Nat.add_sub_cancel_left]
theorem qy_55 {v : Nat} (e : (Reader.u1 : Decoder Nat) c p = .ok (55, p + 1)) (e1 : (Reader.u1 : Decoder Nat) c (p + 1) = .ok (v, p + 2)) : decode c p = .ok (.lstore v, 2) := by
  have e2 : Decoder.instr p c p = .ok (.lstore v, p + 2) := by
    show Except.bind ((Reader.u1 : Decoder Nat) c p) _ = _
    rw [e]
    show Except.bind ((Reader.u1 : Decoder Nat) c (p + 1)) _ = _
    rw [e1]
    rfl
  show Except.bind (Decoder.instr p c p) _ = _
  rw [e2]
  show Except.ok (_, p + 2 - p) = _
  rw [Nat.add_sub_cancel_left]
theorem qy_56 {v : Nat} (e : (Reader.u1 : Decoder Nat) c p = .ok (56, p + 1)) (e1 : (Reader.u1 : Decoder Nat) c (p + 1) = .ok (v, p + 2)) : decode c p = .ok (.fstore v, 2) := by
  have e2 : Decoder.instr p c p = .ok (.fstore v, p + 2) := by
    show Except.bind ((Reader.u1 : Decoder Nat) c p) _ = _
    rw [e]
    show Except.bind ((Reader.u1 : Decoder Nat) c (p + 1)) _ = _
    rw [e1]
    rfl
  show Except.bind (Decoder.instr p c p) _ = _
  rw [e2]
  show Except.ok (_, p + 2 - p) = _
  rw [Nat.add_sub_cancel_left]
theorem qy_57 {v : Nat} (e : (Reader.u1 : Decoder Nat) c p = .ok (57, p + 1)) (e1 : (Reader.u1 : Decoder Nat) c (p + 1) = .ok (v, p + 2)) : decode c p = .ok (.dstore v, 2) := by
  have e2 : Decoder.instr p c p = .ok (.dstore v, p + 2) := by
    show Except.bind ((Reader.u1 : Decoder Nat) c p) _ = _
    rw [e]
    show Except.bind ((Reader.u1 : Decoder Nat) c (p + 1)) _ = _
    rw [e1]
    rfl
  show Except.bind (Decoder.instr p c p) _ = _
  rw [e2]
  show Except.ok (_, p + 2 - p) = _
  rw [Nat.add_sub_cancel_left]
theorem qy_153 {v : Int} (e : (Reader.u1 : Decoder Nat) c p = .ok (153, p + 1)) (e1 : (Reader.s2 : Decoder Int) c (p + 1) = .ok (v, p + 3)) : decode c p = .ok (.ifCond .eq v, 3) := by
  have e2 : Decoder.instr p c p = .ok (.ifCond .eq v, p + 3) := by
    show Except.bind ((Reader.u1 : Decoder Nat) c p) _ = _
    rw [e]
    show Except.bind ((Reader.s2 : Decoder Int) c (p + 1)) _ = _
    rw [e1]
    rfl
  show Except.bind (Decoder.instr p c p) _ = _
  rw [e2]
  show Except.ok (_, p + 3 - p) = _
  rw [Nat.add_sub_cancel_left]
theorem qy_154 {v : Int} (e : (Reader.u1 : Decoder Nat) c p = .ok (154, p + 1)) (e1 : (Reader.s2 : Decoder Int) c (p + 1) = .ok (v, p + 3)) : decode c p = .ok (.ifCond .ne v, 3) := by
  have e2 : Decoder.instr p c p = .ok (.ifCond .ne v, p + 3) := by
    show Except.bind ((Reader.u1 : Decoder Nat) c p) _ = _
    rw [e]
    show Except.bind ((Reader.s2 : Decoder Int) c (p + 1)) _ = _
    rw [e1]
    rfl
  show Except.bind (Decoder.instr p c p) _ = _
  rw [e2]
  show Except.ok (_, p + 3 - p) = _
  rw [Nat.add_sub_cancel_left]
theorem qy_159 {v : Int} (e : (Reader.u1 : Decoder Nat) c p = .ok (159, p + 1)) (e1 : (Reader.s2 : Decoder Int) c (p + 1) = .ok (v, p + 3)) : decode c p = .ok (.if_icmp .eq v, 3) := by
  have e2 : Decoder.instr p c p = .ok (.if_icmp .eq v, p + 3) := by
    show Except.bind ((Reader.u1 : Decoder Nat) c p) _ = _
    rw [e]
    show Except.bind ((Reader.s2 : Decoder Int) c (p + 1)) _ = _
    rw [e1]
    rfl
  show Except.bind (Decoder.instr p c p) _ = _
  rw [e2]
  show Except.ok (_, p + 3 - p) = _
  rw [Nat.add_sub_cancel_left]
theorem qy_163 {v : Int} (e : (Reader.u1 : Decoder Nat) c p = .ok (163, p + 1)) (e1 : (Reader.s2 : Decoder Int) c (p + 1) = .ok (v, p + 3)) : decode c p = .ok (.if_icmp .gt v, 3) := by
  have e2 : Decoder.instr p c p = .ok (.if_icmp .gt v, p + 3) := by
    show Except.bind ((Reader.u1 : Decoder Nat) c p) _ = _
    rw [e]
    show Except.bind ((Reader.s2 : Decoder Int) c (p + 1)) _ = _
    rw [e1]
    rfl
  show Except.bind (Decoder.instr p c p) _ = _
  rw [e2]
  show Except.ok (_, p + 3 - p) = _
  rw [Nat.add_sub_cancel_left]
theorem qy_167 {v : Int} (e : (Reader.u1 : Decoder Nat) c p = .ok (167, p + 1)) (e1 : (Reader.s2 : Decoder Int) c (p + 1) = .ok (v, p + 3)) : decode c p = .ok (.goto v, 3) := by
  have e2 : Decoder.instr p c p = .ok (.goto v, p + 3) := by
    show Except.bind ((Reader.u1 : Decoder Nat) c p) _ = _
    rw [e]
    show Except.bind ((Reader.s2 : Decoder Int) c (p + 1)) _ = _
    rw [e1]
    rfl
  show Except.bind (Decoder.instr p c p) _ = _
  rw [e2]
  show Except.ok (_, p + 3 - p) = _
  rw [Nat.add_sub_cancel_left]
theorem qy_182 {v : Nat} (e : (Reader.u1 : Decoder Nat) c p = .ok (182, p + 1)) (e1 : (Reader.u2 : Decoder Nat) c (p + 1) = .ok (v, p + 3)) : decode c p = .ok (.invokevirtual v, 3) := by
  have e2 : Decoder.instr p c p = .ok (.invokevirtual v, p + 3) := by
    show Except.bind ((Reader.u1 : Decoder Nat) c p) _ = _
    rw [e]
    show Except.bind ((Reader.u2 : Decoder Nat) c (p + 1)) _ = _
    rw [e1]
    rfl
  show Except.bind (Decoder.instr p c p) _ = _
  rw [e2]
  show Except.ok (_, p + 3 - p) = _
  rw [Nat.add_sub_cancel_left]
theorem qy_184 {v : Nat} (e : (Reader.u1 : Decoder Nat) c p = .ok (184, p + 1)) (e1 : (Reader.u2 : Decoder Nat) c (p + 1) = .ok (v, p + 3)) : decode c p = .ok (.invokestatic v, 3) := by
  have e2 : Decoder.instr p c p = .ok (.invokestatic v, p + 3) := by
    show Except.bind ((Reader.u1 : Decoder Nat) c p) _ = _
    rw [e]
    show Except.bind ((Reader.u2 : Decoder Nat) c (p + 1)) _ = _
    rw [e1]
    rfl
  show Except.bind (Decoder.instr p c p) _ = _
  rw [e2]
  show Except.ok (_, p + 3 - p) = _
  rw [Nat.add_sub_cancel_left]
theorem qy_132 {v : Nat} {w : Int} (e : (Reader.u1 : Decoder Nat) c p = .ok (132, p + 1)) (e1 : (Reader.u1 : Decoder Nat) c (p + 1) = .ok (v, p + 2)) (e3 : (Reader.s1 : Decoder Int) c (p + 2) = .ok (w, p + 3)) : decode c p = .ok (.iinc v w, 3) := by
  have e2 : Decoder.instr p c p = .ok (.iinc v w, p + 3) := by
    show Except.bind ((Reader.u1 : Decoder Nat) c p) _ = _
    rw [e]
    show Except.bind ((Reader.u1 : Decoder Nat) c (p + 1)) _ = _
    rw [e1]
    show Except.bind ((Reader.s1 : Decoder Int) c (p + 2)) _ = _
    rw [e3]
    rfl
  show Except.bind (Decoder.instr p c p) _ = _
  rw [e2]
  show Except.ok (_, p + 3 - p) = _
  rw [Nat.add_sub_cancel_left]
end QD
def qy_i (g : Nat → Option UInt8) (p : Nat) : Option (Instr × Nat) :=
  match g p with
  | none => none
  | some b => match b.toNat with
    | 3 => some (.iconst 0, 1)
    | 4 => some (.iconst 1, 1)
    | 5 => some (.iconst 2, 1)
    | 6 => some (.iconst 3, 1)
    | 7 => some (.iconst 4, 1)
    | 8 => some (.iconst 5, 1)
    | 9 => some (.lconst 0, 1)
    | 10 => some (.lconst 1, 1)
    | 16 => (g (p + 1)).bind fun x => some (.bipush (Reader.signed 8 x.toNat), 2)
    | 21 => (g (p + 1)).bind fun x => some (.iload x.toNat, 2)
    | 22 => (g (p + 1)).bind fun x => some (.lload x.toNat, 2)
    | 23 => (g (p + 1)).bind fun x => some (.fload x.toNat, 2)
    | 24 => (g (p + 1)).bind fun x => some (.dload x.toNat, 2)
    | 25 => (g (p + 1)).bind fun x => some (.aload x.toNat, 2)
    | 42 => some (.aload_n 0, 1)
    | 43 => some (.aload_n 1, 1)
    | 44 => some (.aload_n 2, 1)
    | 45 => some (.aload_n 3, 1)
    | 46 => some (.iaload, 1)
    | 47 => some (.laload, 1)
    | 49 => some (.daload, 1)
    | 54 => (g (p + 1)).bind fun x => some (.istore x.toNat, 2)
    | 55 => (g (p + 1)).bind fun x => some (.lstore x.toNat, 2)
    | 56 => (g (p + 1)).bind fun x => some (.fstore x.toNat, 2)
    | 57 => (g (p + 1)).bind fun x => some (.dstore x.toNat, 2)
    | 96 => some (.iadd, 1)
    | 100 => some (.isub, 1)
    | 126 => some (.iand, 1)
    | 132 => (g (p + 1)).bind fun x => (g (p + 2)).bind fun y => some (.iinc x.toNat (Reader.signed 8 y.toNat), 3)
    | 133 => some (.i2l, 1)
    | 141 => some (.f2d, 1)
    | 148 => some (.lcmp, 1)
    | 149 => some (.fcmp .l, 1)
    | 151 => some (.dcmp .l, 1)
    | 153 => (g (p + 1)).bind fun x => (g (p + 2)).bind fun y => some (.ifCond .eq (Reader.signed 16 (x.toNat * 256 + y.toNat)), 3)
    | 154 => (g (p + 1)).bind fun x => (g (p + 2)).bind fun y => some (.ifCond .ne (Reader.signed 16 (x.toNat * 256 + y.toNat)), 3)
    | 159 => (g (p + 1)).bind fun x => (g (p + 2)).bind fun y => some (.if_icmp .eq (Reader.signed 16 (x.toNat * 256 + y.toNat)), 3)
    | 163 => (g (p + 1)).bind fun x => (g (p + 2)).bind fun y => some (.if_icmp .gt (Reader.signed 16 (x.toNat * 256 + y.toNat)), 3)
    | 167 => (g (p + 1)).bind fun x => (g (p + 2)).bind fun y => some (.goto (Reader.signed 16 (x.toNat * 256 + y.toNat)), 3)
    | 172 => some (.ireturn, 1)
    | 182 => (g (p + 1)).bind fun x => (g (p + 2)).bind fun y => some (.invokevirtual (x.toNat * 256 + y.toNat), 3)
    | 184 => (g (p + 1)).bind fun x => (g (p + 2)).bind fun y => some (.invokestatic (x.toNat * 256 + y.toNat), 3)
    | 190 => some (.arraylength, 1)
    | _ => none
theorem qy_ok {c : ByteArray} {g : Nat → Option UInt8} (hg : ∀ i b, g i = some b → c.data.toList[i]? = some b) {p : Nat} {r : Instr × Nat} (h : qy_i g p = some r) : decode c p = .ok r := by
  unfold qy_i at h
  split at h
  · cases h
  · rename_i b hb
    have e := qy_u1 (hg _ _ hb)
    split at h
    · rename_i hn
      rw [hn] at e
      cases h
      exact qy_3 e
    · rename_i hn
      rw [hn] at e
      cases h
      exact qy_4 e
    · rename_i hn
      rw [hn] at e
      cases h
      exact qy_5 e
    · rename_i hn
      rw [hn] at e
      cases h
      exact qy_6 e
    · rename_i hn
      rw [hn] at e
      cases h
      exact qy_7 e
    · rename_i hn
      rw [hn] at e
      cases h
      exact qy_8 e
    · rename_i hn
      rw [hn] at e
      cases h
      exact qy_9 e
    · rename_i hn
      rw [hn] at e
      cases h
      exact qy_10 e
    · rename_i hn
      rw [hn] at e
      obtain ⟨x, hx, h⟩ := Option.bind_eq_some_iff.mp h
      cases h
      exact qy_16 e (qy_s1 (qy_u1 (hg _ _ hx)))
    · rename_i hn
      rw [hn] at e
      obtain ⟨x, hx, h⟩ := Option.bind_eq_some_iff.mp h
      cases h
      exact qy_21 e (qy_u1 (hg _ _ hx))
    · rename_i hn
      rw [hn] at e
      obtain ⟨x, hx, h⟩ := Option.bind_eq_some_iff.mp h
      cases h
      exact qy_22 e (qy_u1 (hg _ _ hx))
    · rename_i hn
      rw [hn] at e
      obtain ⟨x, hx, h⟩ := Option.bind_eq_some_iff.mp h
      cases h
      exact qy_23 e (qy_u1 (hg _ _ hx))
    · rename_i hn
      rw [hn] at e
      obtain ⟨x, hx, h⟩ := Option.bind_eq_some_iff.mp h
      cases h
      exact qy_24 e (qy_u1 (hg _ _ hx))
    · rename_i hn
      rw [hn] at e
      obtain ⟨x, hx, h⟩ := Option.bind_eq_some_iff.mp h
      cases h
      exact qy_25 e (qy_u1 (hg _ _ hx))
    · rename_i hn
      rw [hn] at e
      cases h
      exact qy_42 e
    · rename_i hn
      rw [hn] at e
      cases h
      exact qy_43 e
    · rename_i hn
      rw [hn] at e
      cases h
      exact qy_44 e
    · rename_i hn
      rw [hn] at e
      cases h
      exact qy_45 e
    · rename_i hn
      rw [hn] at e
      cases h
      exact qy_46 e
    · rename_i hn
      rw [hn] at e
      cases h
      exact qy_47 e
    · rename_i hn
      rw [hn] at e
      cases h
      exact qy_49 e
    · rename_i hn
      rw [hn] at e
      obtain ⟨x, hx, h⟩ := Option.bind_eq_some_iff.mp h
      cases h
      exact qy_54 e (qy_u1 (hg _ _ hx))
    · rename_i hn
      rw [hn] at e
      obtain ⟨x, hx, h⟩ := Option.bind_eq_some_iff.mp h
      cases h
      exact qy_55 e (qy_u1 (hg _ _ hx))
    · rename_i hn
      rw [hn] at e
      obtain ⟨x, hx, h⟩ := Option.bind_eq_some_iff.mp h
      cases h
      exact qy_56 e (qy_u1 (hg _ _ hx))
    · rename_i hn
      rw [hn] at e
      obtain ⟨x, hx, h⟩ := Option.bind_eq_some_iff.mp h
      cases h
      exact qy_57 e (qy_u1 (hg _ _ hx))
    · rename_i hn
      rw [hn] at e
      cases h
      exact qy_96 e
    · rename_i hn
      rw [hn] at e
      cases h
      exact qy_100 e
    · rename_i hn
      rw [hn] at e
      cases h
      exact qy_126 e
    · rename_i hn
      rw [hn] at e
      obtain ⟨x, hx, h⟩ := Option.bind_eq_some_iff.mp h
      obtain ⟨y, hy, h⟩ := Option.bind_eq_some_iff.mp h
      cases h
      exact qy_132 e (qy_u1 (hg _ _ hx)) (qy_s1 (qy_u1 (hg _ _ hy)))
    · rename_i hn
      rw [hn] at e
      cases h
      exact qy_133 e
    · rename_i hn
      rw [hn] at e
      cases h
      exact qy_141 e
    · rename_i hn
      rw [hn] at e
      cases h
      exact qy_148 e
    · rename_i hn
      rw [hn] at e
      cases h
      exact qy_149 e
    · rename_i hn
      rw [hn] at e
      cases h
      exact qy_151 e
    · rename_i hn
      rw [hn] at e
      obtain ⟨x, hx, h⟩ := Option.bind_eq_some_iff.mp h
      obtain ⟨y, hy, h⟩ := Option.bind_eq_some_iff.mp h
      cases h
      exact qy_153 e (qy_s2 (qy_u2 (qy_u1 (hg _ _ hx)) (qy_u1 (hg _ _ hy))))
    · rename_i hn
      rw [hn] at e
      obtain ⟨x, hx, h⟩ := Option.bind_eq_some_iff.mp h
      obtain ⟨y, hy, h⟩ := Option.bind_eq_some_iff.mp h
      cases h
      exact qy_154 e (qy_s2 (qy_u2 (qy_u1 (hg _ _ hx)) (qy_u1 (hg _ _ hy))))
    · rename_i hn
      rw [hn] at e
      obtain ⟨x, hx, h⟩ := Option.bind_eq_some_iff.mp h
      obtain ⟨y, hy, h⟩ := Option.bind_eq_some_iff.mp h
      cases h
      exact qy_159 e (qy_s2 (qy_u2 (qy_u1 (hg _ _ hx)) (qy_u1 (hg _ _ hy))))
    · rename_i hn
      rw [hn] at e
      obtain ⟨x, hx, h⟩ := Option.bind_eq_some_iff.mp h
      obtain ⟨y, hy, h⟩ := Option.bind_eq_some_iff.mp h
      cases h
      exact qy_163 e (qy_s2 (qy_u2 (qy_u1 (hg _ _ hx)) (qy_u1 (hg _ _ hy))))
    · rename_i hn
      rw [hn] at e
      obtain ⟨x, hx, h⟩ := Option.bind_eq_some_iff.mp h
      obtain ⟨y, hy, h⟩ := Option.bind_eq_some_iff.mp h
      cases h
      exact qy_167 e (qy_s2 (qy_u2 (qy_u1 (hg _ _ hx)) (qy_u1 (hg _ _ hy))))
    · rename_i hn
      rw [hn] at e
      cases h
      exact qy_172 e
    · rename_i hn
      rw [hn] at e
      obtain ⟨x, hx, h⟩ := Option.bind_eq_some_iff.mp h
      obtain ⟨y, hy, h⟩ := Option.bind_eq_some_iff.mp h
      cases h
      exact qy_182 e (qy_u2 (qy_u1 (hg _ _ hx)) (qy_u1 (hg _ _ hy)))
    · rename_i hn
      rw [hn] at e
      obtain ⟨x, hx, h⟩ := Option.bind_eq_some_iff.mp h
      obtain ⟨y, hy, h⟩ := Option.bind_eq_some_iff.mp h
      cases h
      exact qy_184 e (qy_u2 (qy_u1 (hg _ _ hx)) (qy_u1 (hg _ _ hy)))
    · rename_i hn
      rw [hn] at e
      cases h
      exact qy_190 e
    · cases h
def qy_b0 : List UInt8 := [187, 0, 8, 89, 183, 0, 203, 76, 187, 0, 204, 89, 183, 0, 206, 77, 4, 188, 11, 78, 4, 188, 7, 58, 4, 3, 54, 5, 21, 5, 42, 190, 16, 6, 100, 163, 14, 133, 42, 21, 5, 46, 16, 63, 126, 170, 0, 0, 0, 0, 14, 117, 0, 0, 0, 0, 0, 0, 0, 63, 0, 0, 1, 15]
def qy_b1 : List UInt8 := [0, 0, 1, 88, 0, 0, 1, 144, 0, 0, 1, 157, 0, 0, 1, 170, 0, 0, 1, 183, 0, 0, 1, 239, 0, 0, 2, 51, 0, 0, 2, 126, 0, 0, 2, 194, 0, 0, 3, 6, 0, 0, 3, 62, 0, 0, 3, 118, 0, 0, 3, 174, 0, 0, 3, 230, 0, 0, 4, 30, 0, 0, 4, 114]
def qy_b2 : List UInt8 := [0, 0, 4, 170, 0, 0, 4, 214, 0, 0, 5, 14, 0, 0, 5, 82, 0, 0, 5, 126, 0, 0, 5, 170, 0, 0, 5, 221, 0, 0, 6, 9, 0, 0, 6, 53, 0, 0, 6, 97, 0, 0, 6, 141, 0, 0, 6, 185, 0, 0, 6, 241, 0, 0, 7, 29, 0, 0, 7, 85, 0, 0, 7, 148]
def qy_b3 : List UInt8 := [0, 0, 7, 192, 0, 0, 8, 11, 0, 0, 8, 86, 0, 0, 8, 129, 0, 0, 8, 185, 0, 0, 8, 241, 0, 0, 9, 53, 0, 0, 9, 109, 0, 0, 9, 153, 0, 0, 9, 197, 0, 0, 9, 253, 0, 0, 10, 53, 0, 0, 10, 118, 0, 0, 10, 184, 0, 0, 10, 228, 0, 0, 11, 16]
def qy_b4 : List UInt8 := [0, 0, 11, 72, 0, 0, 11, 128, 0, 0, 11, 184, 0, 0, 11, 228, 0, 0, 12, 16, 0, 0, 12, 60, 0, 0, 12, 128, 0, 0, 12, 184, 0, 0, 12, 240, 0, 0, 13, 80, 0, 0, 13, 148, 0, 0, 13, 204, 0, 0, 13, 248, 0, 0, 14, 5, 0, 0, 14, 61, 43, 42, 21, 5]
def qy_b5 : List UInt8 := [4, 96, 46, 42, 21, 5, 5, 96, 46, 42, 21, 5, 6, 96, 46, 42, 21, 5, 7, 96, 46, 42, 21, 5, 8, 96, 46, 182, 0, 207, 44, 42, 21, 5, 4, 96, 46, 42, 21, 5, 5, 96, 46, 42, 21, 5, 6, 96, 46, 42, 21, 5, 7, 96, 46, 42, 21, 5, 8, 96, 46, 182, 0, 211]
def qy_b6 : List UInt8 := [159, 13, 34, 3, 172, 43, 42, 21, 5, 4, 96, 46, 45, 184, 0, 212, 54, 6, 44, 42, 21, 5, 4, 96, 46, 182, 0, 217, 54, 7, 44, 182, 0, 218, 21, 6, 159, 0, 5, 3, 172, 21, 6, 154, 0, 15, 45, 3, 47, 21, 7, 133, 148, 153, 0, 5, 3, 172, 167, 12, 232, 43, 182, 0]
def qy_b7 : List UInt8 := [221, 44, 182, 0, 224, 159, 12, 221, 3, 172, 43, 182, 0, 225, 44, 182, 0, 228, 159, 12, 208, 3, 172, 43, 182, 0, 229, 44, 182, 0, 232, 159, 12, 195, 3, 172, 43, 42, 21, 5, 4, 96, 46, 45, 184, 0, 233, 54, 6, 44, 42, 21, 5, 4, 96, 46, 182, 0, 235, 54, 7, 44, 182, 0]
def qy_b8 : List UInt8 := [218, 21, 6, 159, 0, 5, 3, 172, 21, 6, 154, 0, 15, 45, 3, 47, 21, 7, 133, 148, 153, 0, 5, 3, 172, 167, 12, 137, 43, 42, 21, 5, 4, 96, 46, 42, 21, 5, 5, 96, 46, 45, 184, 0, 236, 54, 6, 44, 42, 21, 5, 4, 96, 46, 42, 21, 5, 5, 96, 46, 182, 0, 239, 54]
def qy_b9 : List UInt8 := [7, 44, 182, 0, 218, 21, 6, 159, 0, 5, 3, 172, 21, 6, 154, 0, 15, 45, 3, 47, 21, 7, 133, 148, 153, 0, 5, 3, 172, 167, 12, 69, 43, 42, 21, 5, 4, 96, 46, 42, 21, 5, 5, 96, 46, 45, 184, 0, 240, 54, 6, 44, 42, 21, 5, 4, 96, 46, 42, 21, 5, 5, 96, 46]
def qy_b10 : List UInt8 := [182, 0, 242, 54, 7, 44, 182, 0, 218, 21, 6, 159, 0, 5, 3, 172, 21, 6, 154, 0, 22, 45, 3, 47, 21, 7, 153, 0, 7, 10, 167, 0, 4, 9, 148, 153, 0, 5, 3, 172, 167, 11, 250, 43, 42, 21, 5, 4, 96, 46, 42, 21, 5, 5, 96, 46, 45, 184, 0, 243, 54, 6, 44, 42]
def qy_b11 : List UInt8 := [21, 5, 4, 96, 46, 42, 21, 5, 5, 96, 46, 182, 0, 245, 54, 7, 44, 182, 0, 218, 21, 6, 159, 0, 5, 3, 172, 21, 6, 154, 0, 15, 45, 3, 47, 21, 7, 133, 148, 153, 0, 5, 3, 172, 167, 11, 182, 43, 42, 21, 5, 4, 96, 46, 42, 21, 5, 5, 96, 46, 45, 184, 0, 246]
def qy_b12 : List UInt8 := [54, 6, 44, 42, 21, 5, 4, 96, 46, 42, 21, 5, 5, 96, 46, 182, 0, 248, 54, 7, 44, 182, 0, 218, 21, 6, 159, 0, 5, 3, 172, 21, 6, 154, 0, 15, 45, 3, 47, 21, 7, 133, 148, 153, 0, 5, 3, 172, 167, 11, 114, 43, 42, 21, 5, 4, 96, 46, 45, 184, 0, 249, 54, 6]
def qy_b13 : List UInt8 := [44, 42, 21, 5, 4, 96, 46, 182, 0, 251, 54, 7, 44, 182, 0, 218, 21, 6, 159, 0, 5, 3, 172, 21, 6, 154, 0, 15, 45, 3, 47, 21, 7, 133, 148, 153, 0, 5, 3, 172, 167, 11, 58, 43, 42, 21, 5, 4, 96, 46, 45, 184, 0, 252, 54, 6, 44, 42, 21, 5, 4, 96, 46, 182]
def qy_b14 : List UInt8 := [0, 254, 54, 7, 44, 182, 0, 218, 21, 6, 159, 0, 5, 3, 172, 21, 6, 154, 0, 15, 45, 3, 47, 21, 7, 133, 148, 153, 0, 5, 3, 172, 167, 11, 2, 43, 42, 21, 5, 4, 96, 46, 45, 184, 0, 255, 54, 6, 44, 42, 21, 5, 4, 96, 46, 182, 1, 1, 54, 7, 44, 182, 0, 218]
def qy_b15 : List UInt8 := [21, 6, 159, 0, 5, 3, 172, 21, 6, 154, 0, 15, 45, 3, 47, 21, 7, 133, 148, 153, 0, 5, 3, 172, 167, 10, 202, 43, 42, 21, 5, 4, 96, 46, 45, 184, 1, 2, 54, 6, 44, 42, 21, 5, 4, 96, 46, 182, 1, 4, 54, 7, 44, 182, 0, 218, 21, 6, 159, 0, 5, 3, 172, 21]
def qy_b16 : List UInt8 := [6, 154, 0, 15, 45, 3, 47, 21, 7, 133, 148, 153, 0, 5, 3, 172, 167, 10, 146, 43, 42, 21, 5, 4, 96, 46, 45, 184, 1, 5, 54, 6, 44, 42, 21, 5, 4, 96, 46, 182, 1, 7, 54, 7, 44, 182, 0, 218, 21, 6, 159, 0, 5, 3, 172, 21, 6, 154, 0, 15, 45, 3, 47, 21]
def qy_b17 : List UInt8 := [7, 133, 148, 153, 0, 5, 3, 172, 167, 10, 90, 43, 42, 21, 5, 4, 96, 46, 42, 21, 5, 5, 96, 46, 153, 0, 7, 4, 167, 0, 4, 3, 45, 184, 1, 8, 54, 6, 44, 42, 21, 5, 4, 96, 46, 42, 21, 5, 5, 96, 46, 153, 0, 7, 4, 167, 0, 4, 3, 182, 1, 11, 54, 7]
def qy_b18 : List UInt8 := [44, 182, 0, 218, 21, 6, 159, 0, 5, 3, 172, 21, 6, 154, 0, 15, 45, 3, 47, 21, 7, 133, 148, 153, 0, 5, 3, 172, 167, 10, 6, 43, 42, 21, 5, 4, 96, 46, 45, 184, 1, 12, 54, 6, 44, 42, 21, 5, 4, 96, 46, 182, 1, 14, 54, 7, 44, 182, 0, 218, 21, 6, 159, 0]
def qy_b19 : List UInt8 := [5, 3, 172, 21, 6, 154, 0, 15, 45, 3, 47, 21, 7, 133, 148, 153, 0, 5, 3, 172, 167, 9, 206, 43, 45, 184, 1, 15, 54, 6, 44, 182, 1, 18, 54, 7, 44, 182, 0, 218, 21, 6, 159, 0, 5, 3, 172, 21, 6, 154, 0, 15, 45, 3, 47, 21, 7, 133, 148, 153, 0, 5, 3, 172]
def qy_b20 : List UInt8 := [167, 9, 162, 43, 42, 21, 5, 4, 96, 46, 45, 184, 1, 19, 54, 6, 44, 42, 21, 5, 4, 96, 46, 182, 1, 21, 54, 7, 44, 182, 0, 218, 21, 6, 159, 0, 5, 3, 172, 21, 6, 154, 0, 15, 45, 3, 47, 21, 7, 133, 148, 153, 0, 5, 3, 172, 167, 9, 106, 43, 42, 21, 5, 4]
def qy_b21 : List UInt8 := [96, 46, 42, 21, 5, 5, 96, 46, 45, 184, 1, 22, 54, 6, 44, 42, 21, 5, 4, 96, 46, 42, 21, 5, 5, 96, 46, 182, 1, 24, 54, 7, 44, 182, 0, 218, 21, 6, 159, 0, 5, 3, 172, 21, 6, 154, 0, 15, 45, 3, 47, 21, 7, 133, 148, 153, 0, 5, 3, 172, 167, 9, 38, 43]
def qy_b22 : List UInt8 := [45, 184, 1, 25, 54, 6, 44, 182, 1, 27, 54, 7, 44, 182, 0, 218, 21, 6, 159, 0, 5, 3, 172, 21, 6, 154, 0, 15, 45, 3, 47, 21, 7, 133, 148, 153, 0, 5, 3, 172, 167, 8, 250, 43, 45, 184, 1, 28, 54, 6, 44, 182, 1, 30, 54, 7, 44, 182, 0, 218, 21, 6, 159, 0]
def qy_b23 : List UInt8 := [5, 3, 172, 21, 6, 154, 0, 15, 45, 3, 47, 21, 7, 133, 148, 153, 0, 5, 3, 172, 167, 8, 206, 43, 45, 184, 1, 31, 54, 6, 44, 182, 1, 33, 54, 7, 44, 182, 0, 218, 21, 6, 159, 0, 5, 3, 172, 21, 6, 154, 0, 22, 45, 3, 47, 21, 7, 153, 0, 7, 10, 167, 0, 4]
def qy_b24 : List UInt8 := [9, 148, 153, 0, 5, 3, 172, 167, 8, 155, 43, 45, 184, 1, 34, 54, 6, 44, 182, 1, 36, 54, 7, 44, 182, 0, 218, 21, 6, 159, 0, 5, 3, 172, 21, 6, 154, 0, 15, 45, 3, 47, 21, 7, 133, 148, 153, 0, 5, 3, 172, 167, 8, 111, 43, 45, 184, 1, 37, 54, 6, 44, 182, 1]
def qy_b25 : List UInt8 := [39, 54, 7, 44, 182, 0, 218, 21, 6, 159, 0, 5, 3, 172, 21, 6, 154, 0, 15, 45, 3, 47, 21, 7, 133, 148, 153, 0, 5, 3, 172, 167, 8, 67, 43, 45, 184, 1, 40, 54, 6, 44, 182, 1, 42, 54, 7, 44, 182, 0, 218, 21, 6, 159, 0, 5, 3, 172, 21, 6, 154, 0, 15, 45]
def qy_b26 : List UInt8 := [3, 47, 21, 7, 133, 148, 153, 0, 5, 3, 172, 167, 8, 23, 43, 45, 184, 1, 43, 54, 6, 44, 182, 1, 45, 54, 7, 44, 182, 0, 218, 21, 6, 159, 0, 5, 3, 172, 21, 6, 154, 0, 15, 45, 3, 47, 21, 7, 133, 148, 153, 0, 5, 3, 172, 167, 7, 235, 43, 45, 184, 1, 46, 54]
def qy_b27 : List UInt8 := [6, 44, 182, 1, 48, 54, 7, 44, 182, 0, 218, 21, 6, 159, 0, 5, 3, 172, 21, 6, 154, 0, 15, 45, 3, 47, 21, 7, 133, 148, 153, 0, 5, 3, 172, 167, 7, 191, 43, 42, 21, 5, 4, 96, 46, 45, 184, 1, 49, 54, 6, 44, 42, 21, 5, 4, 96, 46, 182, 1, 51, 54, 7, 44]
def qy_b28 : List UInt8 := [182, 0, 218, 21, 6, 159, 0, 5, 3, 172, 21, 6, 154, 0, 15, 45, 3, 47, 21, 7, 133, 148, 153, 0, 5, 3, 172, 167, 7, 135, 43, 45, 184, 1, 52, 54, 6, 44, 182, 1, 54, 54, 7, 44, 182, 0, 218, 21, 6, 159, 0, 5, 3, 172, 21, 6, 154, 0, 15, 45, 3, 47, 21, 7]
def qy_b29 : List UInt8 := [133, 148, 153, 0, 5, 3, 172, 167, 7, 91, 43, 42, 21, 5, 4, 96, 46, 45, 184, 1, 55, 54, 6, 44, 42, 21, 5, 4, 96, 46, 182, 1, 57, 54, 7, 44, 182, 0, 218, 21, 6, 159, 0, 5, 3, 172, 21, 6, 154, 0, 15, 45, 3, 47, 21, 7, 133, 148, 153, 0, 5, 3, 172, 167]
def qy_b30 : List UInt8 := [7, 35, 43, 42, 21, 5, 4, 96, 46, 45, 184, 1, 58, 54, 6, 44, 42, 21, 5, 4, 96, 46, 182, 1, 60, 54, 7, 44, 182, 0, 218, 21, 6, 159, 0, 5, 3, 172, 21, 6, 154, 0, 22, 45, 3, 47, 21, 7, 153, 0, 7, 10, 167, 0, 4, 9, 148, 153, 0, 5, 3, 172, 167, 6]
def qy_b31 : List UInt8 := [228, 43, 45, 184, 1, 61, 54, 6, 44, 182, 1, 63, 54, 7, 44, 182, 0, 218, 21, 6, 159, 0, 5, 3, 172, 21, 6, 154, 0, 15, 45, 3, 47, 21, 7, 133, 148, 153, 0, 5, 3, 172, 167, 6, 184, 43, 42, 21, 5, 4, 96, 46, 42, 21, 5, 5, 96, 46, 45, 184, 1, 64, 54, 6]
def qy_b32 : List UInt8 := [44, 42, 21, 5, 4, 96, 46, 42, 21, 5, 5, 96, 46, 182, 1, 66, 54, 7, 44, 182, 0, 218, 21, 6, 159, 0, 5, 3, 172, 21, 6, 154, 0, 22, 45, 3, 47, 21, 7, 153, 0, 7, 10, 167, 0, 4, 9, 148, 153, 0, 5, 3, 172, 167, 6, 109, 43, 42, 21, 5, 4, 96, 46, 42]
def qy_b33 : List UInt8 := [21, 5, 5, 96, 46, 45, 184, 1, 67, 54, 6, 44, 42, 21, 5, 4, 96, 46, 42, 21, 5, 5, 96, 46, 182, 1, 69, 54, 7, 44, 182, 0, 218, 21, 6, 159, 0, 5, 3, 172, 21, 6, 154, 0, 22, 45, 3, 47, 21, 7, 153, 0, 7, 10, 167, 0, 4, 9, 148, 153, 0, 5, 3, 172]
def qy_b34 : List UInt8 := [167, 6, 34, 43, 45, 184, 1, 70, 54, 6, 44, 182, 1, 72, 55, 7, 44, 182, 0, 218, 21, 6, 159, 0, 5, 3, 172, 21, 6, 154, 0, 14, 45, 3, 47, 22, 7, 148, 153, 0, 5, 3, 172, 167, 5, 247, 43, 42, 21, 5, 4, 96, 46, 45, 184, 1, 73, 54, 6, 44, 42, 21, 5, 4]
def qy_b35 : List UInt8 := [96, 46, 182, 1, 75, 54, 7, 44, 182, 0, 218, 21, 6, 159, 0, 5, 3, 172, 21, 6, 154, 0, 15, 45, 3, 47, 21, 7, 133, 148, 153, 0, 5, 3, 172, 167, 5, 191, 43, 42, 21, 5, 4, 96, 46, 45, 184, 1, 76, 54, 6, 44, 42, 21, 5, 4, 96, 46, 182, 1, 78, 54, 7, 44]
def qy_b36 : List UInt8 := [182, 0, 218, 21, 6, 159, 0, 5, 3, 172, 21, 6, 154, 0, 15, 45, 3, 47, 21, 7, 133, 148, 153, 0, 5, 3, 172, 167, 5, 135, 43, 42, 21, 5, 4, 96, 46, 42, 21, 5, 5, 96, 46, 45, 184, 1, 79, 54, 6, 44, 42, 21, 5, 4, 96, 46, 42, 21, 5, 5, 96, 46, 182, 1]
def qy_b37 : List UInt8 := [81, 54, 7, 44, 182, 0, 218, 21, 6, 159, 0, 5, 3, 172, 21, 6, 154, 0, 15, 45, 3, 47, 21, 7, 133, 148, 153, 0, 5, 3, 172, 167, 5, 67, 43, 42, 21, 5, 4, 96, 46, 45, 184, 1, 82, 54, 6, 44, 42, 21, 5, 4, 96, 46, 182, 1, 84, 54, 7, 44, 182, 0, 218, 21]
def qy_b38 : List UInt8 := [6, 159, 0, 5, 3, 172, 21, 6, 154, 0, 15, 45, 3, 47, 21, 7, 133, 148, 153, 0, 5, 3, 172, 167, 5, 11, 43, 45, 184, 1, 85, 54, 6, 44, 182, 1, 87, 54, 7, 44, 182, 0, 218, 21, 6, 159, 0, 5, 3, 172, 21, 6, 154, 0, 15, 45, 3, 47, 21, 7, 133, 148, 153, 0]
def qy_b39 : List UInt8 := [5, 3, 172, 167, 4, 223, 43, 45, 184, 1, 88, 54, 6, 44, 182, 1, 90, 54, 7, 44, 182, 0, 218, 21, 6, 159, 0, 5, 3, 172, 21, 6, 154, 0, 15, 45, 3, 47, 21, 7, 133, 148, 153, 0, 5, 3, 172, 167, 4, 179, 43, 42, 21, 5, 4, 96, 46, 45, 184, 1, 91, 54, 6, 44]
def qy_b40 : List UInt8 := [42, 21, 5, 4, 96, 46, 182, 1, 93, 54, 7, 44, 182, 0, 218, 21, 6, 159, 0, 5, 3, 172, 21, 6, 154, 0, 15, 45, 3, 47, 21, 7, 133, 148, 153, 0, 5, 3, 172, 167, 4, 123, 43, 42, 21, 5, 4, 96, 46, 45, 184, 1, 94, 54, 6, 44, 42, 21, 5, 4, 96, 46, 182, 1]
def qy_b41 : List UInt8 := [96, 54, 7, 44, 182, 0, 218, 21, 6, 159, 0, 5, 3, 172, 21, 6, 154, 0, 15, 45, 3, 47, 21, 7, 133, 148, 153, 0, 5, 3, 172, 167, 4, 67, 43, 25, 4, 184, 1, 97, 54, 6, 44, 182, 1, 100, 57, 7, 44, 182, 0, 218, 21, 6, 159, 0, 5, 3, 172, 21, 6, 154, 0, 35]
def qy_b42 : List UInt8 := [25, 4, 3, 49, 24, 7, 151, 153, 0, 25, 25, 4, 3, 49, 25, 4, 3, 49, 151, 153, 0, 11, 24, 7, 24, 7, 151, 154, 0, 5, 3, 172, 167, 4, 2, 43, 25, 4, 184, 1, 101, 54, 6, 44, 182, 1, 103, 56, 7, 44, 182, 0, 218, 21, 6, 159, 0, 5, 3, 172, 21, 6, 154, 0]
def qy_b43 : List UInt8 := [36, 25, 4, 3, 49, 23, 7, 141, 151, 153, 0, 25, 25, 4, 3, 49, 25, 4, 3, 49, 151, 153, 0, 11, 23, 7, 23, 7, 149, 154, 0, 5, 3, 172, 167, 3, 192, 43, 45, 184, 1, 104, 54, 6, 44, 182, 1, 106, 54, 7, 44, 182, 0, 218, 21, 6, 159, 0, 5, 3, 172, 21, 6, 154]
def qy_b44 : List UInt8 := [0, 15, 45, 3, 47, 21, 7, 133, 148, 153, 0, 5, 3, 172, 167, 3, 148, 43, 45, 184, 1, 107, 54, 6, 44, 182, 1, 109, 54, 7, 44, 182, 0, 218, 21, 6, 159, 0, 5, 3, 172, 21, 6, 154, 0, 15, 45, 3, 47, 21, 7, 133, 148, 153, 0, 5, 3, 172, 167, 3, 104, 43, 42, 21]
def qy_b45 : List UInt8 := [5, 4, 96, 46, 45, 184, 1, 110, 54, 6, 44, 42, 21, 5, 4, 96, 46, 182, 1, 112, 54, 7, 44, 182, 0, 218, 21, 6, 159, 0, 5, 3, 172, 21, 6, 154, 0, 15, 45, 3, 47, 21, 7, 133, 148, 153, 0, 5, 3, 172, 167, 3, 48, 43, 42, 21, 5, 4, 96, 46, 45, 184, 1, 113]
def qy_b46 : List UInt8 := [54, 6, 44, 42, 21, 5, 4, 96, 46, 182, 1, 115, 54, 7, 44, 182, 0, 218, 21, 6, 159, 0, 5, 3, 172, 21, 6, 154, 0, 15, 45, 3, 47, 21, 7, 133, 148, 153, 0, 5, 3, 172, 167, 2, 248, 43, 42, 21, 5, 4, 96, 46, 45, 184, 1, 116, 54, 6, 44, 42, 21, 5, 4, 96]
def qy_b47 : List UInt8 := [46, 182, 1, 118, 54, 7, 44, 182, 0, 218, 21, 6, 159, 0, 5, 3, 172, 21, 6, 154, 0, 15, 45, 3, 47, 21, 7, 133, 148, 153, 0, 5, 3, 172, 167, 2, 192, 43, 45, 184, 1, 119, 54, 6, 44, 182, 1, 121, 54, 7, 44, 182, 0, 218, 21, 6, 159, 0, 5, 3, 172, 21, 6, 154]
def qy_b48 : List UInt8 := [0, 15, 45, 3, 47, 21, 7, 133, 148, 153, 0, 5, 3, 172, 167, 2, 148, 43, 45, 184, 1, 122, 54, 6, 44, 182, 1, 124, 54, 7, 44, 182, 0, 218, 21, 6, 159, 0, 5, 3, 172, 21, 6, 154, 0, 15, 45, 3, 47, 21, 7, 133, 148, 153, 0, 5, 3, 172, 167, 2, 104, 43, 45, 184]
def qy_b49 : List UInt8 := [1, 125, 54, 6, 44, 182, 1, 127, 54, 7, 44, 182, 0, 218, 21, 6, 159, 0, 5, 3, 172, 21, 6, 154, 0, 15, 45, 3, 47, 21, 7, 133, 148, 153, 0, 5, 3, 172, 167, 2, 60, 43, 42, 21, 5, 4, 96, 46, 42, 21, 5, 5, 96, 46, 45, 184, 1, 128, 54, 6, 44, 42, 21, 5]
def qy_b50 : List UInt8 := [4, 96, 46, 42, 21, 5, 5, 96, 46, 182, 1, 130, 54, 7, 44, 182, 0, 218, 21, 6, 159, 0, 5, 3, 172, 21, 6, 154, 0, 15, 45, 3, 47, 21, 7, 133, 148, 153, 0, 5, 3, 172, 167, 1, 248, 43, 42, 21, 5, 4, 96, 46, 45, 184, 1, 131, 54, 6, 44, 42, 21, 5, 4, 96]
def qy_b51 : List UInt8 := [46, 182, 1, 133, 54, 7, 44, 182, 0, 218, 21, 6, 159, 0, 5, 3, 172, 21, 6, 154, 0, 15, 45, 3, 47, 21, 7, 133, 148, 153, 0, 5, 3, 172, 167, 1, 192, 43, 42, 21, 5, 4, 96, 46, 45, 184, 1, 134, 54, 6, 44, 42, 21, 5, 4, 96, 46, 182, 1, 136, 54, 7, 44, 182]
def qy_b52 : List UInt8 := [0, 218, 21, 6, 159, 0, 5, 3, 172, 21, 6, 154, 0, 15, 45, 3, 47, 21, 7, 133, 148, 153, 0, 5, 3, 172, 167, 1, 136, 43, 42, 21, 5, 4, 96, 46, 42, 21, 5, 5, 96, 46, 42, 21, 5, 6, 96, 46, 153, 0, 7, 4, 167, 0, 4, 3, 45, 184, 1, 137, 54, 6, 44, 42]
def qy_b53 : List UInt8 := [21, 5, 4, 96, 46, 42, 21, 5, 5, 96, 46, 42, 21, 5, 6, 96, 46, 153, 0, 7, 4, 167, 0, 4, 3, 182, 1, 140, 54, 7, 44, 182, 0, 218, 21, 6, 159, 0, 5, 3, 172, 21, 6, 154, 0, 15, 45, 3, 47, 21, 7, 133, 148, 153, 0, 5, 3, 172, 167, 1, 40, 43, 42, 21]
def qy_b54 : List UInt8 := [5, 4, 96, 46, 42, 21, 5, 5, 96, 46, 45, 184, 1, 141, 54, 6, 44, 42, 21, 5, 4, 96, 46, 42, 21, 5, 5, 96, 46, 182, 1, 143, 54, 7, 44, 182, 0, 218, 21, 6, 159, 0, 5, 3, 172, 21, 6, 154, 0, 15, 45, 3, 47, 21, 7, 133, 148, 153, 0, 5, 3, 172, 167, 0]
def qy_b55 : List UInt8 := [228, 43, 42, 21, 5, 4, 96, 46, 45, 184, 1, 144, 54, 6, 44, 42, 21, 5, 4, 96, 46, 182, 1, 146, 54, 7, 44, 182, 0, 218, 21, 6, 159, 0, 5, 3, 172, 21, 6, 154, 0, 15, 45, 3, 47, 21, 7, 133, 148, 153, 0, 5, 3, 172, 167, 0, 172, 43, 45, 184, 1, 147, 54, 6]
def qy_b56 : List UInt8 := [44, 182, 1, 149, 54, 7, 44, 182, 0, 218, 21, 6, 159, 0, 5, 3, 172, 21, 6, 154, 0, 15, 45, 3, 47, 21, 7, 133, 148, 153, 0, 5, 3, 172, 167, 0, 128, 43, 182, 1, 150, 44, 182, 1, 153, 159, 0, 117, 3, 172, 43, 42, 21, 5, 4, 96, 46, 45, 184, 1, 154, 54, 6, 44]
def qy_b57 : List UInt8 := [42, 21, 5, 4, 96, 46, 182, 1, 156, 54, 7, 44, 182, 0, 218, 21, 6, 159, 0, 5, 3, 172, 21, 6, 154, 0, 15, 45, 3, 47, 21, 7, 133, 148, 153, 0, 5, 3, 172, 167, 0, 59, 43, 42, 21, 5, 4, 96, 46, 45, 184, 1, 157, 54, 6, 44, 42, 21, 5, 4, 96, 46, 182, 1]
def qy_b58 : List UInt8 := [159, 54, 7, 44, 182, 0, 218, 21, 6, 159, 0, 5, 3, 172, 21, 6, 154, 0, 15, 45, 3, 47, 21, 7, 133, 148, 153, 0, 5, 3, 172, 167, 0, 3, 132, 5, 6, 167, 241, 119, 4, 172, 0, 0, 0, 0, 0, 0, 0, 0, 0, 0, 0, 0, 0, 0, 0, 0, 0, 0, 0, 0, 0, 0]
def qy_bs : List (List UInt8) := [qy_b0, qy_b1, qy_b2, qy_b3, qy_b4, qy_b5, qy_b6, qy_b7, qy_b8, qy_b9, qy_b10, qy_b11, qy_b12, qy_b13, qy_b14, qy_b15, qy_b16, qy_b17, qy_b18, qy_b19, qy_b20, qy_b21, qy_b22, qy_b23, qy_b24, qy_b25, qy_b26, qy_b27, qy_b28, qy_b29, qy_b30, qy_b31, qy_b32, qy_b33, qy_b34, qy_b35, qy_b36, qy_b37, qy_b38, qy_b39, qy_b40, qy_b41, qy_b42, qy_b43, qy_b44, qy_b45, qy_b46, qy_b47, qy_b48, qy_b49, qy_b50, qy_b51, qy_b52, qy_b53, qy_b54, qy_b55, qy_b56, qy_b57, qy_b58]
def qy_g (p : Nat) : Option UInt8 := (qy_bs[p / 64]?).bind fun l => l[p % 64]?
theorem qy_fl {α : Type} : ∀ (ls : List (List α)) (p : Nat), (∀ l ∈ ls, l.length = 64) → ls.flatten[p]? = (ls[p / 64]?).bind fun l => l[p % 64]?
  | [], p, _ => by simp
  | l :: ls, p, h => by
    have hl := h l (List.mem_cons.mpr (Or.inl rfl))
    rw [List.flatten_cons]
    by_cases hp : p < 64
    · rw [List.getElem?_append_left (by omega), Nat.div_eq_of_lt hp, Nat.mod_eq_of_lt hp]
      rfl
    · obtain ⟨k, rfl⟩ : ∃ k, p = k + 64 := ⟨p - 64, by omega⟩
      rw [List.getElem?_append_right (by omega), hl, Nat.add_sub_cancel, qy_fl ls k (fun l h1 => h l (List.mem_cons.mpr (Or.inr h1))), Nat.add_div_right k (by decide), Nat.add_mod_right]
      rfl
theorem qy_by : cL_law.data.toList ++ List.replicate 22 0 = qy_bs.flatten := by decide +kernel
theorem qy_len : (qy_bs.all fun l => decide (l.length = 64)) = true := by decide +kernel
theorem qy_sz : cL_law.data.toList.length = 3754 := by decide +kernel
theorem qy_hg (i : Nat) (b : UInt8) (h : (if i < 3754 then qy_g i else none) = some b) : cL_law.data.toList[i]? = some b := by
  by_cases hi : i < 3754
  · rw [if_pos hi] at h
    unfold qy_g at h
    rw [← qy_fl qy_bs i (fun l hl => of_decide_eq_true (List.all_eq_true.mp qy_len l hl)), ← qy_by, List.getElem?_append_left (by rw [qy_sz]; exact hi)] at h
    exact h
  · rw [if_neg hi] at h
    cases h
def qx_okR (own : String) (e : qxE) : Bool :=
  match e with
  | (pc, ins, np, a, b, w) =>
    decide (pc < np) && ((qx_isT ins || decide (np = pc + qx_len ins)) && (match ins with
    | .ifCond _ off => decide ((pc : Int) + off = (a : Int))
    | .if_icmp _ off => decide ((pc : Int) + off = (a : Int))
    | .goto off => decide ((pc : Int) + off = (a : Int))
    | .ifnull off => decide ((pc : Int) + off = (a : Int))
    | .getfield i => (match vwCl[a]? with
      | some c => decide (b < c.2.2) && qx_wd w (.fieldLink own i (c.2.1 b).1 (c.2.1 b).2.1 (c.2.1 b).2.2.1)
      | none => false)
    | .putfield i => (match vwCl[a]? with
      | some c => decide (b < c.2.2) && (qx_wd w (.fieldLink own i (c.2.1 b).1 (c.2.1 b).2.1 (c.2.1 b).2.2.1) && ((qx_fo a b).isSome || (decide ((c.2.1 b).2.2.2 = false) && (decide ((c.2.1 b).2.2.1 = "I") || (decide ((c.2.1 b).2.2.1 = "Z") && qx_bf a b)))))
      | none => false)
    | .ldc i => (match b with
      | 0 => qx_wd w (.constant own i (nI a))
      | _ => (match qx_tx[a]? with
        | some t => decide (t.1 = own) && decide (t.2.1 = i)
        | none => false))
    | .ldc_w i => (match b with
      | 0 => qx_wd w (.constant own i (nI a))
      | _ => (match qx_tx[a]? with
        | some t => decide (t.1 = own) && decide (t.2.1 = i)
        | none => false))
    | .invokevirtual i => (match a with
      | 1000 => qx_wd w (.methodLink own i yJ0_length_8abf5)
      | 1001 => qx_wd w (.methodLink own i yJ0_charAt_5068e)
      | _ => (match qx_mis[a]? with
        | some c => decide (a < 394) && (qx_wd w (.methodLink own i c.2.1) && (decide (c.2.2.2.2.2.1 = false) && decide (b = c.2.2.2.2.2.2.1 + 1)))
        | none => false))
    | .invokestatic i => (match a with
      | 1002 => qx_wd w (.methodLink own i Lib.Math.max.name)
      | 1003 => qx_wd w (.methodLink own i Lib.Math.min.name)
      | 1004 => qx_wd w (.methodLink own i arraycopyName)
      | _ => (match qx_mis[a]? with
        | some c => decide (a < 394) && ((qx_wd w (.methodLink own i c.2.1) || (qx_wn w (.methodLinkNest own i c.2.1 "PupilPairs") && decide (c.2.2.2.2.2.2.2.1 = []))) && (decide (c.2.2.2.2.2.1 = true) && decide (b = c.2.2.2.2.2.2.1)))
        | none => false))
    | .new i => false
    | _ => true))
theorem qx_okE_of {own : String} {cc : ByteArray} {e : qxE} (hd : decode cc e.1 = .ok (e.2.1, e.2.2.1 - e.1)) (hr : qx_okR own e = true) : qx_okE own cc e = true := by
  obtain ⟨pc, ins, np, a, b, w⟩ := e
  unfold qx_okR at hr
  unfold qx_okE
  dsimp only at hd hr ⊢
  rw [decide_eq_true hd, Bool.true_and]
  cases ins
  case new i => simp at hr
  all_goals exact hr
def qy_ts : Instr := .tableswitch 3701 0 63 #[271, 344, 400, 413, 426, 439, 495, 563, 638, 706, 774, 830, 886, 942, 998, 1054, 1138, 1194, 1238, 1294, 1362, 1406, 1450, 1501, 1545, 1589, 1633, 1677, 1721, 1777, 1821, 1877, 1940, 1984, 2059, 2134, 2177, 2233, 2289, 2357, 2413, 2457, 2501, 2557, 2613, 2678, 2744, 2788, 2832, 2888, 2944, 3000, 3044, 3088, 3132, 3200, 3256, 3312, 3408, 3476, 3532, 3576, 3589, 3645]
theorem qy_tsd : decode cL_law 45 = .ok (qy_ts, 271) := by decide +kernel
def qx_okF (e : qxE) : Bool := (decide (e.1 = 45 ∧ e.2.1 = qy_ts ∧ e.2.2.1 = 316) || decide (qy_i (fun i => if i < 3754 then qy_g i else none) e.1 = some (e.2.1, e.2.2.1 - e.1))) && qx_okR RL e
theorem qx_okF_ok {e : qxE} (h : qx_okF e = true) : qx_okE RL cL_law e = true := by
  unfold qx_okF at h
  rw [Bool.and_eq_true, Bool.or_eq_true, decide_eq_true_eq, decide_eq_true_eq] at h
  refine qx_okE_of ?_ h.2
  rcases h.1 with ⟨h1, h2, h3⟩ | h1
  · rw [h1, h2, h3]
    exact qy_tsd
  · exact qy_ok qy_hg h1
theorem qx_okF_all {l : List qxE} (h : l.all qx_okF = true) : l.all (qx_okE RL cL_law) = true := List.all_eq_true.mpr fun e he => qx_okF_ok (List.all_eq_true.mp h e he)
