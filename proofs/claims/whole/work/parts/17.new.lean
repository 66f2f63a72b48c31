def qx_nk0 : List qxE := [(0, .aload_n 0, 1, 0, 0, 0), (1, .invokespecial 3, 4, 1000, 0, 0), (4, .aload_n 0, 5, 0, 0, 0), (5, .bipush 14, 7, 0, 0, 0), (7, .newarray .int, 9, 0, 0, 0), (9, .putfield 9, 12, 0, 1, 0), (12, .aload_n 0, 13, 0, 0, 0), (13, .sipush 4096, 16, 0, 0, 0), (16, .newarray .int, 18, 0, 0, 0), (18, .putfield 15, 21, 0, 2, 0), (21, .aload_n 0, 22, 0, 0, 0), (22, .sipush 4096, 25, 0, 0, 0), (25, .newarray .int, 27, 0, 0, 0), (27, .putfield 18, 30, 0, 3, 0), (30, .aload_n 0, 31, 0, 0, 0), (31, .iconst 1, 32, 0, 0, 0), (32, .putfield 21, 35, 0, 4, 0), (35, .return_, 36, 0, 0, 0)]
def qx_nk1 : List qxE := [(0, .aload_n 0, 1, 0, 0, 0), (1, .invokespecial 3, 4, 1000, 0, 0), (4, .aload_n 0, 5, 0, 0, 0), (5, .sipush 500, 8, 0, 0, 0), (8, .newarray .byte, 10, 1, 0, 0), (10, .putfield 9, 13, 1, 0, 0), (13, .aload_n 0, 14, 0, 0, 0), (14, .new 15, 17, 2, 0, 0), (17, .dup, 18, 0, 0, 0), (18, .invokespecial 17, 21, 2, 1, 0), (21, .putfield 18, 24, 1, 1, 0), (24, .aload_n 0, 25, 0, 0, 0), (25, .iconst (-1), 26, 0, 0, 0), (26, .putfield 22, 29, 1, 4, 0), (29, .return_, 30, 0, 0, 0)]
def qx_nk2 : List qxE := [(0, .aload_n 0, 1, 0, 0, 0), (1, .invokespecial 3, 4, 1000, 0, 0), (4, .aload_n 0, 5, 0, 0, 0), (5, .bipush 14, 7, 0, 0, 0), (7, .newarray .int, 9, 0, 0, 0), (9, .putfield 9, 12, 2, 3, 0), (12, .aload_n 0, 13, 0, 0, 0), (13, .bipush 14, 15, 0, 0, 0), (15, .newarray .int, 17, 0, 0, 0), (17, .putfield 15, 20, 2, 4, 0), (20, .return_, 21, 0, 0, 0)]
def qx_nk3 : List qxE := [(0, .aload_n 0, 1, 0, 0, 0), (1, .invokespecial 3, 4, 1000, 0, 0), (4, .aload_n 0, 5, 0, 0, 0), (5, .bipush 14, 7, 0, 0, 0), (7, .newarray .int, 9, 0, 0, 0), (9, .putfield 9, 12, 3, 9, 0), (12, .aload_n 0, 13, 0, 0, 0), (13, .bipush 14, 15, 0, 0, 0), (15, .newarray .int, 17, 0, 0, 0), (17, .putfield 15, 20, 3, 10, 0), (20, .aload_n 0, 21, 0, 0, 0), (21, .bipush 14, 23, 0, 0, 0), (23, .newarray .int, 25, 0, 0, 0), (25, .putfield 18, 28, 3, 11, 0), (28, .aload_n 0, 29, 0, 0, 0), (29, .bipush 14, 31, 0, 0, 0), (31, .newarray .int, 33, 0, 0, 0), (33, .putfield 21, 36, 3, 12, 0), (36, .aload_n 0, 37, 0, 0, 0), (37, .bipush 14, 39, 0, 0, 0), (39, .newarray .int, 41, 0, 0, 0), (41, .putfield 24, 44, 3, 13, 0), (44, .aload_n 0, 45, 0, 0, 0), (45, .new 27, 48, 6, 0, 0), (48, .dup, 49, 0, 0, 0), (49, .invokespecial 29, 52, 6, 1, 0), (52, .putfield 30, 55, 3, 14, 0), (55, .return_, 56, 0, 0, 0)]
def qx_nk4 : List qxE := [(0, .aload_n 0, 1, 0, 0, 0), (1, .invokespecial 3, 4, 1000, 0, 0), (4, .aload_n 0, 5, 0, 0, 0), (5, .new 9, 8, 2, 0, 0), (8, .dup, 9, 0, 0, 0), (9, .invokespecial 11, 12, 2, 1, 0), (12, .putfield 12, 15, 4, 0, 0), (15, .aload_n 0, 16, 0, 0, 0), (16, .new 18, 19, 3, 0, 0), (19, .dup, 20, 0, 0, 0), (20, .invokespecial 20, 23, 3, 1, 0), (23, .putfield 21, 26, 4, 1, 0), (26, .return_, 27, 0, 0, 0)]
def qx_nk5 : List qxE := [(0, .aload_n 0, 1, 0, 0, 0), (1, .invokespecial 3, 4, 1000, 0, 0), (4, .aload_n 0, 5, 0, 0, 0), (5, .bipush 64, 7, 0, 0, 0), (7, .newarray .byte, 9, 1, 0, 0), (9, .putfield 9, 12, 5, 0, 0), (12, .return_, 13, 0, 0, 0)]
def qx_nk6 : List qxE := [(0, .aload_n 0, 1, 0, 0, 0), (1, .invokespecial 3, 4, 1000, 0, 0), (4, .aload_n 0, 5, 0, 0, 0), (5, .sipush 196, 8, 0, 0, 0), (8, .newarray .int, 10, 0, 0, 0), (10, .putfield 9, 13, 6, 0, 0), (13, .aload_n 0, 14, 0, 0, 0), (14, .bipush 14, 16, 0, 0, 0), (16, .newarray .int, 18, 0, 0, 0), (18, .putfield 15, 21, 6, 1, 0), (21, .return_, 22, 0, 0, 0)]
def qx_nk7 : List qxE := [(0, .aload_n 0, 1, 0, 0, 0), (1, .invokespecial 1, 4, 1000, 0, 0), (4, .aload_n 0, 5, 0, 0, 0), (5, .new 7, 8, 1, 0, 0), (8, .dup, 9, 0, 0, 0), (9, .invokespecial 9, 12, 1, 1, 0), (12, .putfield 10, 15, 7, 0, 0), (15, .aload_n 0, 16, 0, 0, 0), (16, .new 16, 19, 5, 0, 0), (19, .dup, 20, 0, 0, 0), (20, .invokespecial 18, 23, 5, 1, 0), (23, .putfield 19, 26, 7, 1, 0), (26, .aload_n 0, 27, 0, 0, 0), (27, .new 23, 30, 0, 0, 0), (30, .dup, 31, 0, 0, 0), (31, .invokespecial 25, 34, 0, 1, 0), (34, .putfield 26, 37, 7, 2, 0), (37, .aload_n 0, 38, 0, 0, 0), (38, .new 30, 41, 4, 0, 0), (41, .dup, 42, 0, 0, 0), (42, .invokespecial 32, 45, 4, 1, 0), (45, .putfield 33, 48, 7, 3, 0), (48, .aload_n 0, 49, 0, 0, 0), (49, .new 30, 52, 4, 0, 0), (52, .dup, 53, 0, 0, 0), (53, .invokespecial 32, 56, 4, 1, 0), (56, .putfield 37, 59, 7, 4, 0), (59, .aload_n 0, 60, 0, 0, 0), (60, .bipush 8, 62, 0, 0, 0), (62, .anewarray 30, 65, 0, 0, 0), (65, .putfield 40, 68, 7, 5, 0), (68, .aload_n 0, 69, 0, 0, 0), (69, .iconst 2, 70, 0, 0, 0), (70, .anewarray 30, 73, 0, 0, 0), (73, .putfield 44, 76, 7, 6, 0), (76, .iconst 0, 77, 0, 0, 0), (77, .istore_n 1, 78, 0, 0, 0), (78, .iload_n 1, 79, 0, 0, 0), (79, .bipush 8, 81, 0, 0, 0), (81, .if_icmp .ge 22, 84, 103, 0, 0), (84, .aload_n 0, 85, 0, 0, 0), (85, .getfield 40, 88, 7, 5, 0), (88, .iload_n 1, 89, 0, 0, 0), (89, .new 30, 92, 4, 0, 0), (92, .dup, 93, 0, 0, 0), (93, .invokespecial 32, 96, 4, 1, 0), (96, .aastore, 97, 0, 0, 0), (97, .iinc 1 1, 100, 0, 0, 0), (100, .goto (-22), 103, 78, 0, 0), (103, .iconst 0, 104, 0, 0, 0), (104, .istore_n 1, 105, 0, 0, 0), (105, .iload_n 1, 106, 0, 0, 0), (106, .iconst 2, 107, 0, 0, 0), (107, .if_icmp .ge 22, 110, 129, 0, 0), (110, .aload_n 0, 111, 0, 0, 0), (111, .getfield 44, 114, 7, 6, 0), (114, .iload_n 1, 115, 0, 0, 0), (115, .new 30, 118, 4, 0, 0), (118, .dup, 119, 0, 0, 0), (119, .invokespecial 32, 122, 4, 1, 0), (122, .aastore, 123, 0, 0, 0), (123, .iinc 1 1, 126, 0, 0, 0), (126, .goto (-21), 129, 105, 0, 0), (129, .return_, 130, 0, 0, 0)]
def qx_nk8 : List qxE := [(0, .aload_n 0, 1, 0, 0, 0), (1, .invokespecial 1, 4, 1000, 0, 0), (4, .aload_n 0, 5, 0, 0, 0), (5, .sipush 335, 8, 0, 0, 0), (8, .newarray .int, 10, 0, 0, 0), (10, .putfield 9, 13, 8, 1, 0), (13, .aload_n 0, 14, 0, 0, 0), (14, .sipush 335, 17, 0, 0, 0), (17, .newarray .int, 19, 0, 0, 0), (19, .putfield 13, 22, 8, 2, 0), (22, .aload_n 0, 23, 0, 0, 0), (23, .sipush 2680, 26, 0, 0, 0), (26, .newarray .int, 28, 0, 0, 0), (28, .putfield 16, 31, 8, 3, 0), (31, .aload_n 0, 32, 0, 0, 0), (32, .sipush 670, 35, 0, 0, 0), (35, .newarray .int, 37, 0, 0, 0), (37, .putfield 19, 40, 8, 4, 0), (40, .aload_n 0, 41, 0, 0, 0), (41, .iconst 2, 42, 0, 0, 0), (42, .newarray .boolean, 44, 2, 0, 0), (44, .putfield 22, 47, 8, 5, 0), (47, .aload_n 0, 48, 0, 0, 0), (48, .sipush 500, 51, 0, 0, 0), (51, .newarray .byte, 53, 1, 0, 0), (53, .putfield 26, 56, 8, 8, 0), (56, .aload_n 0, 57, 0, 0, 0), (57, .iconst (-1), 58, 0, 0, 0), (58, .putfield 30, 61, 8, 11, 0), (61, .aload_n 0, 62, 0, 0, 0), (62, .sipush 16384, 65, 0, 0, 0), (65, .newarray .byte, 67, 1, 0, 0), (67, .putfield 34, 70, 8, 17, 0), (70, .aload_n 0, 71, 0, 0, 0), (71, .sipush 16384, 74, 0, 0, 0), (74, .newarray .int, 76, 0, 0, 0), (76, .putfield 37, 79, 8, 18, 0), (79, .aload_n 0, 80, 0, 0, 0), (80, .bipush 14, 82, 0, 0, 0), (82, .newarray .int, 84, 0, 0, 0), (84, .putfield 40, 87, 8, 19, 0), (87, .aload_n 0, 88, 0, 0, 0), (88, .bipush 120, 90, 0, 0, 0), (90, .newarray .byte, 92, 1, 0, 0), (92, .putfield 43, 95, 8, 20, 0), (95, .return_, 96, 0, 0, 0)]
def qx_nk9 : List qxE := [(0, .new 8, 3, 7, 0, 0), (3, .dup, 4, 0, 0, 0), (4, .invokespecial 203, 7, 7, 0, 0), (7, .astore_n 1, 8, 0, 0, 0), (8, .new 204, 11, 8, 0, 0), (11, .dup, 12, 0, 0, 0), (12, .invokespecial 206, 15, 8, 0, 0), (15, .astore_n 2, 16, 0, 0, 0), (16, .iconst 1, 17, 0, 0, 0), (17, .newarray .long, 19, 4, 0, 0), (19, .astore_n 3, 20, 0, 0, 0), (20, .iconst 1, 21, 0, 0, 0), (21, .newarray .double, 23, 5, 0, 0), (23, .astore 4, 25, 0, 0, 0), (25, .iconst 0, 26, 0, 0, 0), (26, .istore 5, 28, 0, 0, 0), (28, .return_, 29, 0, 0, 0)]
def qx_nks : List (List qxE) := [qx_nk0, qx_nk1, qx_nk2, qx_nk3, qx_nk4, qx_nk5, qx_nk6, qx_nk7, qx_nk8, qx_nk9]
/-- class, name, bytes, locals -/
def qx_nis : List (String × MethodName × ByteArray × Nat) := [(RX0, yX0_init, cX0_init, 1), (RX1, yX1_init, cX1_init, 1), (RX2, yX2_init, cX2_init, 1), (RX3, yX3_init, cX3_init, 1), (RX4, yX4_init, cX4_init, 1), (RX5, yX5_init, cX5_init, 1), (RX6, yX6_init, cX6_init, 1), (RX7, yX7_init, cX7_init, 2), (RX8, yX8_init, cX8_init, 1), (RL, yL_law, cL_law, 9)]
/-! The constructors: a machine of its own, whose cells are born one after another. -/
abbrev qxNe : Type := (Nat × List Value) ⊕ (Nat × Nat × List Nat)
abbrev qxN : Type := List qxNe
def qx_ncode (y pc : Nat) : Option qxE := match qx_nks[y]? with
  | some k => k.find? (fun e => e.1 == pc)
  | none => none
def qx_ndf (ci : Nat) : List Value := (List.range (qx_nf ci)).map (fun k => match qx_fo ci k with
  | none => .int 0
  | some _ => .null)
def qx_nok (n : Nat) (v : Value) : Bool := match v with
  | .ref r => decide (r < n) || r == 999
  | .int _ => true
  | .null => true
  | _ => false
def qx_nce (n : Nat) (e : qxNe) : Bool := match e with
  | .inl o => o.2.all (qx_nok n)
  | .inr t => t.2.2.all (fun v => decide (v < n))
def qx_nls (n : Nat) (ls : qxL) : Bool := ls.all (fun o => match o with
  | some v => qx_nok n v
  | none => true)
def qx_nfit (a b : Nat) (v : Value) : Bool := match v with
  | .int _ => (qx_fo a b).isNone && (match vwCl[a]? with
    | some c => decide ((c.2.1 b).2.2.1 = "I")
    | none => false)
  | .ref _ => (qx_fo a b).isSome
  | _ => false
abbrev qxNa : Type := (Nat × qxL × List Value × qxN) ⊕ (Unit ⊕ (Nat × Nat × List Value))
def qx_ngo (np : Nat) (ls : qxL) (st : List Value) (cs : qxN) : Option qxNa := some (.inl (np, ls, st, cs))
def qx_nst (np : Nat) (ls : qxL) (v : Value) (st : List Value) (cs : qxN) (i : Nat) : Option qxNa := if i < ls.length ∧ qx_c1 ls i = true then qx_ngo np (ls.set i (some v)) st cs else none
def qx_nact (e : qxE) (ls : qxL) (st : List Value) (cs : qxN) : Option qxNa := match e with
  | (_, ins, np, a, b, _) => match ins with
    | .iconst c => qx_ngo np ls (.int (Int32.ofInt c) :: st) cs
    | .bipush c => qx_ngo np ls (.int (Int8.ofInt c).toInt32 :: st) cs
    | .sipush c => qx_ngo np ls (.int (Int16.ofInt c).toInt32 :: st) cs
    | .iload_n i => match ls[(i : Nat)]? with
      | some (some (.int x)) => qx_ngo np ls (.int x :: st) cs
      | _ => none
    | .aload_n i => match ls[(i : Nat)]? with
      | some (some (.ref x)) => qx_ngo np ls (.ref x :: st) cs
      | _ => none
    | .istore_n i => match st with
      | .int x :: st' => qx_nst np ls (.int x) st' cs i
      | _ => none
    | .istore i => match st with
      | .int x :: st' => qx_nst np ls (.int x) st' cs i
      | _ => none
    | .astore_n i => match st with
      | .ref x :: st' => qx_nst np ls (.ref x) st' cs i
      | _ => none
    | .astore i => match st with
      | .ref x :: st' => qx_nst np ls (.ref x) st' cs i
      | _ => none
    | .iinc i k => match ls[i]? with
      | some (some (.int x)) => qx_nst np ls (.int (x + Int32.ofInt k)) st cs i
      | _ => none
    | .dup => match st with
      | .ref x :: st' => qx_ngo np ls (.ref x :: .ref x :: st') cs
      | _ => none
    | .goto _ => qx_ngo a ls st cs
    | .if_icmp .ge _ => match st with
      | .int y :: .int x :: st' => if y ≤ x then qx_ngo a ls st' cs else qx_ngo np ls st' cs
      | _ => none
    | .new _ => if cs.length < 999 ∧ qx_nls cs.length ls = true ∧ st.all (qx_nok cs.length) = true then qx_ngo np ls (.ref cs.length :: st) (cs ++ [.inl (a, qx_ndf a)]) else none
    | .newarray _ => match st with
      | .int n :: st' => if ¬ n < 0 ∧ n.toNatClampNeg ≤ 20000 ∧ cs.length < 999 ∧ qx_nls cs.length ls = true ∧ st'.all (qx_nok cs.length) = true then qx_ngo np ls (.ref cs.length :: st') (cs ++ [.inr (a, n.toNatClampNeg, [])]) else none
      | _ => none
    | .anewarray _ => match st with
      | .int n :: st' => if ¬ n < 0 ∧ n.toNatClampNeg ≤ 20000 ∧ cs.length < 999 ∧ qx_nls cs.length ls = true ∧ st'.all (qx_nok cs.length) = true then qx_ngo np ls (.ref cs.length :: st') (cs ++ [.inr (3, n.toNatClampNeg, [])]) else none
      | _ => none
    | .getfield _ => match st with
      | .ref i :: st' => match cs[i]? with
        | some (.inl o) => if o.1 = a then (match o.2[b]? with
          | some v => qx_ngo np ls (v :: st') cs
          | none => none) else none
        | _ => none
      | _ => none
    | .putfield _ => match st with
      | v :: .ref i :: st' => match cs[i]? with
        | some (.inl o) => if o.1 = a ∧ b < o.2.length ∧ qx_nfit a b v = true ∧ qx_nok cs.length v = true then qx_ngo np ls st' (cs.set i (.inl (a, o.2.set b v))) else none
        | _ => none
      | _ => none
    | .aastore => match st with
      | .ref v :: .int j :: .ref i :: st' => match cs[i]?, cs[v]? with
        | some (.inr t), some (.inl o) => if t.1 = 3 ∧ o.1 = 4 ∧ ¬ (j < 0 ∨ t.2.1 ≤ j.toNatClampNeg) ∧ j.toNatClampNeg = t.2.2.length then qx_ngo np ls st' (cs.set i (.inr (3, t.2.1, t.2.2 ++ [v]))) else none
        | _, _ => none
      | _ => none
    | .invokespecial _ => match st with
      | .ref i :: st' => if st'.length ≤ 4 then (if a = 1000 then qx_ngo np ls st' cs else if qx_nls cs.length ls = true ∧ st'.all (qx_nok cs.length) = true ∧ i < cs.length ∧ a < 9 then some (.inr (.inr (a, i, st'))) else none) else none
      | _ => none
    | .return_ => match st with
      | [] => some (.inr (.inl ()))
      | _ => none
    | _ => none
def qx_nml (y : Nat) : Nat := match qx_nis[y]? with
  | some i => i.2.2.2
  | none => 0
def qx_nrun : Nat → Nat → Nat → Nat → qxL → List Value → qxN → Option (Nat × qxL × qxN)
  | 0, _, _, _, _, _, _ => none
  | f + 1, d, y, pc, ls, st, cs => match qx_ncode y pc with
    | none => none
    | some e => match qx_nact e ls st cs with
      | none => none
      | some (.inl q) => qx_nrun f d y q.1 q.2.1 q.2.2.1 q.2.2.2
      | some (.inr (.inl _)) => some (pc, ls, cs)
      | some (.inr (.inr c)) => match d with
        | 0 => none
        | d' + 1 => match qx_nrun f d' c.1 0 (some (.ref c.2.1) :: List.replicate (qx_nml c.1 - 1) none) [] cs with
          | none => none
          | some r => qx_nrun f (d' + 1) y e.2.2.1 ls c.2.2 r.2.2
def qx_nlen (ins : Instr) : Nat := match ins with
  | .anewarray _ => 3
  | ins => qx_len ins
def qx_inb (w : Jvm.Cond) : Bool := goodWord w && decide (w ∈ lw_tbl)
def qx_nokE (own : String) (cc : ByteArray) (e : qxE) : Bool := match e with
  | (pc, ins, np, a, b, _) => decide (decode cc pc = .ok (ins, np - pc)) && (decide (pc < np) && (decide (np = pc + qx_nlen ins) && (match ins with
    | .if_icmp _ off => decide ((pc : Int) + off = (a : Int))
    | .goto off => decide ((pc : Int) + off = (a : Int))
    | .new n => (match vwCl[a]? with
      | some c => qx_inb (.classLink own n c.1) && (qx_inb (.instantiable c.1 c.2.2) && qx_inb (.initialized c.1))
      | none => false)
    | .newarray t => (match t with
      | .int => decide (a = 0)
      | .byte => decide (a = 1)
      | .boolean => decide (a = 2)
      | .long => decide (a = 4)
      | .double => decide (a = 5)
      | _ => false) && qx_inb (.arrayClass (newarray.typeOf t))
    | .anewarray n => qx_inb (.classLink own n RX4)
    | .getfield n => (match vwCl[a]? with
      | some c => decide (b < c.2.2) && qx_inb (.fieldLink own n (c.2.1 b).1 (c.2.1 b).2.1 (c.2.1 b).2.2.1)
      | none => false)
    | .putfield n => (match vwCl[a]? with
      | some c => decide (b < c.2.2) && (qx_inb (.fieldLink own n (c.2.1 b).1 (c.2.1 b).2.1 (c.2.1 b).2.2.1) && (! (c.2.1 b).2.2.2 || decide ((c.2.1 b).1 = own)))
      | none => false)
    | .invokespecial n => if a = 1000 then qx_inb (.methodLink own n objectInit) else (match qx_nis[a]? with
      | some i => if b = 0 then qx_inb (.methodLink own n i.2.1) else (qx_nk (.methodLinkNest own n i.2.1 "PupilPairs") && decide (Cond.methodLinkNest own n i.2.1 "PupilPairs" ∈ lw_tbl))
      | none => false)
    | _ => true)))
theorem qx_nok_all : ∀ y, y < 10 → (match qx_nks[y]?, qx_nis[y]? with
    | some k, some i => k.all (fun e => (y == 9 && e.1 == 28) || qx_nokE i.1 i.2.2.1 e)
    | _, _ => false) = true := by decide +kernel
def qx_n0 : Option (Nat × qxL × qxN) := qx_nrun 3000 5 9 0 [some (.ref 999), none, none, none, none, none, none, none, none] [] []
theorem qx_n0_some : (qx_n0.map (fun r => (r.1, r.2.1, r.2.2.length))) = some (28, [some (.ref 999), some (.ref 0), some (.ref 170), some (.ref 181), some (.ref 182), some (.int 0), none, none, none], 183) := by decide +kernel
