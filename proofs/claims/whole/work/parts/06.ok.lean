/-! Every row of the methods' tables is an instruction of the class files, and its words stand in the tables. -/
def qx_wd (w : Nat) (c : Jvm.Cond) : Bool := goodWord c && decide (lw_tbl[w]? = some c)
/-- the words that hold of a machine that has warmed further, but that the kit's lists don't take -/
def qx_nk (w : Jvm.Cond) : Bool := match w with
  | .methodLinkNest .. => true
  | .castable .. => true
  | .declares .. => true
  | _ => false
def qx_wn (w : Nat) (c : Jvm.Cond) : Bool := qx_nk c && decide (lw_tbl[w]? = some c)
def qx_len (ins : Instr) : Nat := match ins with
  | .iload _ => 2 | .aload _ => 2 | .lload _ => 2 | .dload _ => 2 | .fload _ => 2
  | .istore _ => 2 | .astore _ => 2 | .lstore _ => 2 | .dstore _ => 2 | .fstore _ => 2
  | .bipush _ => 2 | .ldc _ => 2 | .newarray _ => 2
  | .sipush _ => 3 | .iinc _ _ => 3 | .ifCond _ _ => 3 | .if_icmp _ _ => 3 | .goto _ => 3 | .ifnull _ => 3
  | .getfield _ => 3 | .putfield _ => 3 | .invokevirtual _ => 3 | .invokestatic _ => 3 | .invokespecial _ => 3 | .new _ => 3 | .ldc_w _ => 3
  | _ => 1
def qx_isT (ins : Instr) : Bool := match ins with
  | .tableswitch .. => true
  | _ => false
/-- the four that follow 'new' where an exception is thrown -/
def qx_thr (own : String) (cc : ByteArray) (pc a b w : Nat) : Bool :=
  decide (decode cc (pc + 3) = .ok (.dup, 1)) && (match decode cc (pc + 4) with
    | .ok (.ldc is, 2) => (match qx_tx[b]? with
      | some t => decide (t.1 = own) && decide (t.2.1 = is)
      | none => false) && (match decode cc (pc + 6) with
        | .ok (.invokespecial ic, 3) => qx_wd (w / 10000) (.methodLink own ic (Bundle.initS (qx_ex a)))
        | _ => false) && decide (decode cc (pc + 9) = .ok (.athrow, 1))
    | .ok (.ldc_w is, 3) => (match qx_tx[b]? with
      | some t => decide (t.1 = own) && decide (t.2.1 = is)
      | none => false) && (match decode cc (pc + 7) with
        | .ok (.invokespecial ic, 3) => qx_wd (w / 10000) (.methodLink own ic (Bundle.initS (qx_ex a)))
        | _ => false) && decide (decode cc (pc + 10) = .ok (.athrow, 1))
    | _ => false)
def qx_okE (own : String) (cc : ByteArray) (e : qxE) : Bool :=
  match e with
  | (pc, ins, np, a, b, w) =>
    decide (decode cc pc = .ok (ins, np - pc)) && (decide (pc < np) && ((qx_isT ins || decide (np = pc + qx_len ins)) && (match ins with
    | .ifCond _ off => decide ((pc : Int) + off = (a : Int))
    | .if_icmp _ off => decide ((pc : Int) + off = (a : Int))
    | .goto off => decide ((pc : Int) + off = (a : Int))
    | .ifnull off => decide ((pc : Int) + off = (a : Int))
    | .getfield i => (match vwCl[a]? with
      | some c => decide (b < c.2.2) && qx_wd w (.fieldLink own i (c.2.1 b).1 (c.2.1 b).2.1 (c.2.1 b).2.2.1)
      | none => false)
    | .putfield i => (match vwCl[a]? with
      | some c => decide (b < c.2.2) && (qx_wd w (.fieldLink own i (c.2.1 b).1 (c.2.1 b).2.1 (c.2.1 b).2.2.1) && ((qx_fo a b).isSome || (decide ((c.2.1 b).2.2.2 = false) && (decide ((c.2.1 b).2.2.1 = "I") || (decide ((c.2.1 b).2.2.1 = "Z") && qx_bf a b)))))
      | none => false)
    | .ldc i => (match b with
      | 0 => qx_wd w (.constant own i (nI a))
      | _ => (match qx_tx[a]? with
        | some t => decide (t.1 = own) && decide (t.2.1 = i)
        | none => false))
    | .ldc_w i => (match b with
      | 0 => qx_wd w (.constant own i (nI a))
      | _ => (match qx_tx[a]? with
        | some t => decide (t.1 = own) && decide (t.2.1 = i)
        | none => false))
    | .invokevirtual i => (match a with
      | 1000 => qx_wd w (.methodLink own i yJ0_length_8abf5)
      | 1001 => qx_wd w (.methodLink own i yJ0_charAt_5068e)
      | _ => (match qx_mis[a]? with
        | some c => decide (a < 394) && (qx_wd w (.methodLink own i c.2.1) && (decide (c.2.2.2.2.2.1 = false) && decide (b = c.2.2.2.2.2.2.1 + 1)))
        | none => false))
    | .invokestatic i => (match a with
      | 1002 => qx_wd w (.methodLink own i Lib.Math.max.name)
      | 1003 => qx_wd w (.methodLink own i Lib.Math.min.name)
      | 1004 => qx_wd w (.methodLink own i arraycopyName)
      | _ => (match qx_mis[a]? with
        | some c => decide (a < 394) && ((qx_wd w (.methodLink own i c.2.1) || (qx_wn w (.methodLinkNest own i c.2.1 "PupilPairs") && decide (c.2.2.2.2.2.2.2.1 = []))) && (decide (c.2.2.2.2.2.1 = true) && decide (b = c.2.2.2.2.2.2.1)))
        | none => false))
    | .new i => qx_wd (w % 10000) (.classLink own i (qx_ex a)) && qx_thr own cc pc a b w
    | _ => true)))
def qx_cwd (y : MethodName) (cc : ByteArray) (mx : Nat) (rt : Option FieldType) (hh : List (Nat × Nat × Nat × Nat)) : Jvm.Cond := match hh with
  | [] => .code y cc mx rt
  | h :: r => .codeWith y cc mx rt (h :: r)
def qx_cw (c : qxI) : Jvm.Cond := qx_cwd c.2.1 c.2.2.1 c.2.2.2.1 c.2.2.2.2.1 c.2.2.2.2.2.2.2.1
def qx_okI (c : qxI) : Bool := match c with
  | (own, y, _, mx, _, stt, n, hh, w1, w2, w3, w4) =>
    decide (y.cls = own) && (plainName own && (decide (own ≠ "java/lang/invoke/MethodHandle" ∧ own ≠ "java/lang/invoke/VarHandle") && (decide (mx ≤ 22) && (decide ((parseMethodDescriptor y.desc).map (fun d => d.parameters.length) = some n) && (qx_wd w1 (qx_cw c) && (qx_wd w2 (.initialized own) &&
    (match stt with
    | true => qx_wd w3 (.static y)
    | false => decide (hh = []) && (qx_wd w3 (.instanceMethod y) && qx_wd w4 (.selects own y y)))))))))
def qx_okM (y : Nat) : Bool := match qx_mis[y]?, qx_kcs[y]? with
  | some c, some k => qx_okI c && k.all (qx_okE c.1 c.2.2.1)
  | _, _ => false
/-- a method's handlers are its table's, each takes what it says and lays it into a local -/
def qx_okH (y : Nat) : Bool := match qx_mis[y]? with
  | none => false
  | some c => decide ((qx_hs y).map (fun h => (h.2.1, h.2.2.1, h.2.2.2.2.1, h.2.2.2.2.2.2.2.1)) = c.2.2.2.2.2.2.2.1) && (qx_hs y).all (fun h => match h with
    | (_, _, _, E, hp, k, np, ct, w) => (decide (E = qx_ex 0) || (decide (E = qx_ex 1) || decide (E = qx_ex 2))) && (decide (ct ≠ 0) && (qx_wd w (.classLink c.1 ct E) && (match decode c.2.2.1 hp with
      | .ok (.astore_n n, 1) => decide ((n : Nat) = k) && decide (np = hp + 1)
      | .ok (.astore n, 2) => decide (n = k) && decide (np = hp + 2)
      | _ => false))))
