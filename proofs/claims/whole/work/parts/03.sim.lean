/-! A small machine over numbered cells: what the law's methods do, as a function. Its link to the machine itself is proved behind. -/
abbrev qxE : Type := Nat × Instr × Nat × Nat × Nat × Nat
abbrev qxL : Type := List (Option Value)
abbrev qxM : Type := (Nat → Nat → Int32) × (Nat → Int64) × (Nat → UInt64)
abbrev qxA : Type := (Nat × qxL × List Value × qxM) ⊕ ((Option Value) ⊕ (String ⊕ (Nat × List Value × List Value)))
abbrev qxO : Type := (Option Value ⊕ String) × qxM × Nat
/-- the cells of a State at s: its object, its pupils and their two rows, its search and its five rows, its ways and their two rows -/
def qx_st (s : Nat) : List (Nat × (Nat ⊕ (Nat × Nat))) := [(s, .inl 4), (s + 1, .inl 2), (s + 2, .inr (0, 14)), (s + 3, .inr (0, 14)), (s + 4, .inl 3), (s + 5, .inr (0, 14)), (s + 6, .inr (0, 14)), (s + 7, .inr (0, 14)), (s + 8, .inr (0, 14)), (s + 9, .inr (0, 14)), (s + 10, .inl 6), (s + 11, .inr (0, 196)), (s + 12, .inr (0, 14))]
/-- all cells: an object of the class ci, or a row (kind, length) -/
def qx_shL : List (Nat × (Nat ⊕ (Nat × Nat))) := [(2, .inr (4, 1)), (3, .inr (5, 1)), (10, .inl 7), (20, .inl 1), (21, .inr (1, 500)), (22, .inl 2), (23, .inr (0, 14)), (24, .inr (0, 14)), (30, .inl 5), (31, .inr (1, 64)), (40, .inl 0), (41, .inr (0, 14)), (42, .inr (0, 4096)), (43, .inr (0, 4096)), (50, .inr (3, 8)), (51, .inr (3, 2))]
  ++ (qx_st 100 ++ (qx_st 120 ++ (qx_st 140 ++ (qx_st 160 ++ (qx_st 180 ++ (qx_st 200 ++ (qx_st 220 ++ (qx_st 240 ++ (qx_st 260 ++ (qx_st 280 ++ (qx_st 300 ++ (qx_st 320
  ++ [(400, .inl 8), (401, .inr (0, 335)), (402, .inr (0, 335)), (403, .inr (0, 2680)), (404, .inr (0, 670)), (405, .inr (2, 2)), (406, .inr (1, 500)), (407, .inr (1, 16384)), (408, .inr (0, 16384)), (409, .inr (0, 14)), (410, .inr (1, 120))]))))))))))))
def qx_sh (i : Nat) : Option (Nat ⊕ (Nat × Nat)) := (qx_shL.find? (fun q => q.1 == i)).map (fun q => q.2)
/-- a field that is a reference: how far its cell lies behind its object; none: a number -/
def qx_fo (ci k : Nat) : Option Nat := match ci, k with
  | 0, 1 => some 1 | 0, 2 => some 2 | 0, 3 => some 3
  | 1, 0 => some 1 | 1, 1 => some 2
  | 2, 3 => some 1 | 2, 4 => some 2
  | 3, 9 => some 1 | 3, 10 => some 2 | 3, 11 => some 3 | 3, 12 => some 4 | 3, 13 => some 5 | 3, 14 => some 6
  | 4, 0 => some 1 | 4, 1 => some 4
  | 5, 0 => some 1
  | 6, 0 => some 1 | 6, 1 => some 2
  | 7, 0 => some 10 | 7, 1 => some 20 | 7, 2 => some 30 | 7, 3 => some 90 | 7, 4 => some 110 | 7, 5 => some 40 | 7, 6 => some 41
  | 8, 1 => some 1 | 8, 2 => some 2 | 8, 3 => some 3 | 8, 4 => some 4 | 8, 5 => some 5 | 8, 8 => some 6 | 8, 17 => some 7 | 8, 18 => some 8 | 8, 19 => some 9 | 8, 20 => some 10
  | _, _ => none
/-- a field of boolean -/
def qx_bf (ci k : Nat) : Bool := (ci == 7 && k == 10) || (ci == 8 && k == 6)
/-- the cell that a row of States holds at j -/
def qx_ar (i j : Nat) : Nat := if i = 50 then 140 + 20 * j else 300 + 20 * j
def qx_up (M : qxM) (i k : Nat) (v : Int32) : qxM := (fun a j => if a = i ∧ j = k then v else M.1 a j, M.2)
def qx_ur (M : qxM) (i : Nat) (f : Nat → Int32) : qxM := (fun a => if a = i then f else M.1 a, M.2)
/-- the texts -/
def qx_tx : List (String × Nat × String) := [("PupilPairs", 61, "not so many bytes in the buffer"), ("PupilPairs$Parser", 60, "class"), ("PupilPairs$Parser", 102, "kind"), ("PupilPairs$Parser", 104, "friend"), ("PupilPairs$Parser", 106, "ring"), ("PupilPairs$Parser", 108, "pair"), ("PupilPairs", 72, "the text has an error"), ("PupilPairs", 419, "no text was loaded"), ("PupilPairs", 423, "out of range"), ("PupilPairs", 421, "no such pupil"), ("PupilPairs", 425, "a bit of no pupil"), ("PupilPairs", 351, "no such byte"), ("PupilPairs", 353, "the pupil has a mate"), ("PupilPairs", 429, "no search goes on"), ("PupilPairs", 370, "the pupils cannot be paired"), ("PupilPairs", 375, "the pupil is free"), ("PupilPairs", 380, "the pupil has no way"), ("PupilPairs", 386, "a pupil is no friend of itself"), ("PupilPairs", 400, "there is no change to undo"), ("PupilPairs", 427, "no such slot"), ("PupilPairs", 417, "nothing is saved there"), ("PupilPairsModel", 167, "class"), ("PupilPairsModel", 143, "kind"), ("PupilPairsModel", 152, "friend"), ("PupilPairsModel", 157, "ring"), ("PupilPairsModel", 162, "pair")]
def qx_chars (t : String) : List Nat := t.toList.map (fun c => c.toNat)
def qx_txc (k : Nat) : List Nat := match qx_tx[k]? with
  | some t => qx_chars t.2.2
  | none => []
def qx_ex (a : Nat) : String := match a with
  | 0 => "java/lang/IllegalStateException"
  | 1 => "java/lang/IllegalArgumentException"
  | _ => "java/lang/IndexOutOfBoundsException"
def qx_go (np : Nat) (ls : qxL) (st : List Value) (M : qxM) : Option qxA := some (.inl (np, ls, st, M))
/-- a place whose neighbour on the left is no long and no double -/
def qx_c1 (ls : qxL) (i : Nat) : Bool := match i with
  | 0 => true
  | j + 1 => match ls[j]? with
    | some (some v) => v.category == 1
    | _ => true
def qx_sI (np : Nat) (ls : qxL) (v : Value) (st : List Value) (M : qxM) (i : Nat) : Option qxA := if i < ls.length ∧ qx_c1 ls i = true then qx_go np (ls.set i (some v)) st M else none
def qx_s2 (np : Nat) (ls : qxL) (v : Value) (st : List Value) (M : qxM) (i : Nat) : Option qxA := if i + 1 < ls.length ∧ qx_c1 ls i = true then qx_go np ((ls.set i (some v)).set (i + 1) none) st M else none
/-- one instruction: what it does -/
def qx_act (L : Nat) (xs : Nat → Int32) (rt : Option FieldType) (e : qxE) (ls : qxL) (st : List Value) (M : qxM) : Option qxA :=
  match e with
  | (_, ins, np, a, b, _) => match ins with
    | .iconst c => qx_go np ls (.int (Int32.ofInt c) :: st) M
    | .bipush c => qx_go np ls (.int (Int8.ofInt c).toInt32 :: st) M
    | .sipush c => qx_go np ls (.int (Int16.ofInt c).toInt32 :: st) M
    | .lconst c => qx_go np ls (.long (Int64.ofNat (c : Nat)) :: st) M
    | .dconst 0 => qx_go np ls (.double FP.dconst0 :: st) M
    | .fconst 0 => qx_go np ls (.float FP.fconst0 :: st) M
    | .ldc _ => match b with
      | 0 => qx_go np ls (.int (nI a) :: st) M
      | _ => qx_go np ls (.ref (500 + a) :: st) M
    | .ldc_w _ => match b with
      | 0 => qx_go np ls (.int (nI a) :: st) M
      | _ => none
    | .aconst_null => qx_go np ls (.null :: st) M
    | .iload i => match ls[i]? with
      | some (some (.int v)) => qx_go np ls (.int v :: st) M
      | _ => none
    | .iload_n i => match ls[(i : Nat)]? with
      | some (some (.int v)) => qx_go np ls (.int v :: st) M
      | _ => none
    | .aload i => match ls[i]? with
      | some (some (.ref v)) => qx_go np ls (.ref v :: st) M
      | some (some .null) => qx_go np ls (.null :: st) M
      | _ => none
    | .aload_n i => match ls[(i : Nat)]? with
      | some (some (.ref v)) => qx_go np ls (.ref v :: st) M
      | some (some .null) => qx_go np ls (.null :: st) M
      | _ => none
    | .lload i => match ls[i]? with
      | some (some (.long v)) => qx_go np ls (.long v :: st) M
      | _ => none
    | .dload i => match ls[i]? with
      | some (some (.double v)) => qx_go np ls (.double v :: st) M
      | _ => none
    | .fload i => match ls[i]? with
      | some (some (.float v)) => qx_go np ls (.float v :: st) M
      | _ => none
    | .istore i => match st with
      | .int v :: st => qx_sI np ls (.int v) st M i
      | _ => none
    | .istore_n i => match st with
      | .int v :: st => qx_sI np ls (.int v) st M i
      | _ => none
    | .astore i => match st with
      | .ref v :: st => qx_sI np ls (.ref v) st M i
      | .null :: st => qx_sI np ls .null st M i
      | _ => none
    | .astore_n i => match st with
      | .ref v :: st => qx_sI np ls (.ref v) st M i
      | .null :: st => qx_sI np ls .null st M i
      | _ => none
    | .fstore i => match st with
      | .float v :: st => qx_sI np ls (.float v) st M i
      | _ => none
    | .lstore i => match st with
      | .long v :: st => qx_s2 np ls (.long v) st M i
      | _ => none
    | .dstore i => match st with
      | .double v :: st => qx_s2 np ls (.double v) st M i
      | _ => none
    | .iinc i c => match ls[i]? with
      | some (some (.int v)) => qx_sI np ls (.int (v + Int32.ofInt c)) st M i
      | _ => none
    | .iadd => match st with
      | .int y :: .int x :: st => qx_go np ls (.int (x + y) :: st) M
      | _ => none
    | .isub => match st with
      | .int y :: .int x :: st => qx_go np ls (.int (x - y) :: st) M
      | _ => none
    | .imul => match st with
      | .int y :: .int x :: st => qx_go np ls (.int (x * y) :: st) M
      | _ => none
    | .idiv => match st with
      | .int y :: .int x :: st => if y = 0 then none else qx_go np ls (.int (x / y) :: st) M
      | _ => none
    | .irem => match st with
      | .int y :: .int x :: st => if y = 0 then none else qx_go np ls (.int (x - x / y * y) :: st) M
      | _ => none
    | .iand => match st with
      | .int y :: .int x :: st => qx_go np ls (.int (x &&& y) :: st) M
      | _ => none
    | .ior => match st with
      | .int y :: .int x :: st => qx_go np ls (.int (x ||| y) :: st) M
      | _ => none
    | .ixor => match st with
      | .int y :: .int x :: st => qx_go np ls (.int (x ^^^ y) :: st) M
      | _ => none
    | .ineg => match st with
      | .int x :: st => qx_go np ls (.int (-x) :: st) M
      | _ => none
    | .ishl => match st with
      | .int y :: .int x :: st => qx_go np ls (.int (x <<< (y &&& 31)) :: st) M
      | _ => none
    | .ishr => match st with
      | .int y :: .int x :: st => qx_go np ls (.int (x >>> (y &&& 31)) :: st) M
      | _ => none
    | .iushr => match st with
      | .int y :: .int x :: st => qx_go np ls (.int (x.toUInt32 >>> (y.toUInt32 &&& Int32.toUInt32 31)).toInt32 :: st) M
      | _ => none
    | .i2b => match st with
      | .int x :: st => qx_go np ls (.int x.toInt8.toInt32 :: st) M
      | _ => none
    | .i2c => match st with
      | .int x :: st => qx_go np ls (.int (x.toUInt32 % 65536).toInt32 :: st) M
      | _ => none
    | .i2l => match st with
      | .int x :: st => qx_go np ls (.long x.toInt64 :: st) M
      | _ => none
    | .i2d => match st with
      | .int x :: st => qx_go np ls (.double (FP.i2d x) :: st) M
      | _ => none
    | .i2f => match st with
      | .int x :: st => qx_go np ls (.float (FP.i2f x) :: st) M
      | _ => none
    | .f2d => match st with
      | .float x :: st => if FP.f2d x &&& 0x7fffffffffffffff ≤ 0x7ff0000000000000 then qx_go np ls (.double (FP.f2d x) :: st) M else none
      | _ => none
    | .ddiv => match st with
      | .double y :: .double x :: st => if FP.ddiv x y &&& 0x7fffffffffffffff ≤ 0x7ff0000000000000 then qx_go np ls (.double (FP.ddiv x y) :: st) M else none
      | _ => none
    | .fdiv => match st with
      | .float y :: .float x :: st => if FP.fdiv x y &&& 0x7fffffff ≤ 0x7f800000 then qx_go np ls (.float (FP.fdiv x y) :: st) M else none
      | _ => none
    | .lcmp => match st with
      | .long y :: .long x :: st => qx_go np ls (.int (lg_cmp x y) :: st) M
      | _ => none
    | .dcmp op => match st with
      | .double y :: .double x :: st => qx_go np ls (.int (Op.cmpValue (FP.dcmp x y) op) :: st) M
      | _ => none
    | .fcmp op => match st with
      | .float y :: .float x :: st => qx_go np ls (.int (Op.cmpValue (FP.fcmp x y) op) :: st) M
      | _ => none
    | .dup => match st with
      | .int x :: st => qx_go np ls (.int x :: .int x :: st) M
      | .ref x :: st => qx_go np ls (.ref x :: .ref x :: st) M
      | _ => none
    | .dup2 => match st with
      | .int y :: .ref x :: st => qx_go np ls (.int y :: .ref x :: .int y :: .ref x :: st) M
      | _ => none
    | .pop => match st with
      | .int _ :: st => qx_go np ls st M
      | .ref _ :: st => qx_go np ls st M
      | _ => none
    | .ifCond c _ => match st with
      | .int x :: st => match c with
        | .eq => if x = 0 then qx_go a ls st M else qx_go np ls st M
        | .ne => if x = 0 then qx_go np ls st M else qx_go a ls st M
        | .lt => if x < 0 then qx_go a ls st M else qx_go np ls st M
        | .ge => if 0 ≤ x then qx_go a ls st M else qx_go np ls st M
        | .gt => if 0 < x then qx_go a ls st M else qx_go np ls st M
        | .le => if x ≤ 0 then qx_go a ls st M else qx_go np ls st M
      | _ => none
    | .if_icmp c _ => match st with
      | .int y :: .int x :: st => match c with
        | .eq => if x = y then qx_go a ls st M else qx_go np ls st M
        | .ne => if x = y then qx_go np ls st M else qx_go a ls st M
        | .lt => if x < y then qx_go a ls st M else qx_go np ls st M
        | .ge => if y ≤ x then qx_go a ls st M else qx_go np ls st M
        | .gt => if y < x then qx_go a ls st M else qx_go np ls st M
        | .le => if x ≤ y then qx_go a ls st M else qx_go np ls st M
      | _ => none
    | .goto _ => qx_go a ls st M
    | .ifnull _ => match st with
      | .ref _ :: st => qx_go np ls st M
      | .null :: st => qx_go a ls st M
      | _ => none
    | .tableswitch d lo hi offs => match st with
      | .int x :: st => if x.toInt < lo ∨ hi < x.toInt then (if 0 ≤ (e.1 : Int) + d then qx_go ((e.1 : Int) + d).toNat ls st M else none) else match offs[(x.toInt - lo).toNat]? with
        | some o => if 0 ≤ (e.1 : Int) + o then qx_go ((e.1 : Int) + o).toNat ls st M else none
        | none => none
      | _ => none
    | .arraylength => match st with
      | .ref i :: st => match qx_sh i with
        | some (.inr (_, n)) => qx_go np ls (.int (nI n) :: st) M
        | _ => if i = 1 then qx_go np ls (.int (nI L) :: st) M else none
      | _ => none
    | .iaload => match st with
      | .int j :: .ref i :: st => match qx_sh i with
        | some (.inr (0, n)) => if j < 0 ∨ n ≤ j.toNatClampNeg then none else qx_go np ls (.int (M.1 i j.toNatClampNeg) :: st) M
        | _ => if i = 1 then (if j < 0 ∨ L ≤ j.toNatClampNeg then none else qx_go np ls (.int (xs j.toNatClampNeg) :: st) M) else none
      | _ => none
    | .baload => match st with
      | .int j :: .ref i :: st => match qx_sh i with
        | some (.inr (1, n)) => if j < 0 ∨ n ≤ j.toNatClampNeg then none else qx_go np ls (.int (M.1 i j.toNatClampNeg) :: st) M
        | some (.inr (2, n)) => if j < 0 ∨ n ≤ j.toNatClampNeg then none else qx_go np ls (.int (M.1 i j.toNatClampNeg) :: st) M
        | _ => none
      | _ => none
    | .laload => match st with
      | .int j :: .ref i :: st => match qx_sh i with
        | some (.inr (4, n)) => if j < 0 ∨ n ≤ j.toNatClampNeg then none else qx_go np ls (.long (M.2.1 j.toNatClampNeg) :: st) M
        | _ => none
      | _ => none
    | .daload => match st with
      | .int j :: .ref i :: st => match qx_sh i with
        | some (.inr (5, n)) => if j < 0 ∨ n ≤ j.toNatClampNeg then none else qx_go np ls (.double (M.2.2 j.toNatClampNeg) :: st) M
        | _ => none
      | _ => none
    | .aaload => match st with
      | .int j :: .ref i :: st => match qx_sh i with
        | some (.inr (3, n)) => if j < 0 ∨ n ≤ j.toNatClampNeg then none else qx_go np ls (.ref (qx_ar i j.toNatClampNeg) :: st) M
        | _ => none
      | _ => none
    | .iastore => match st with
      | .int x :: .int j :: .ref i :: st => match qx_sh i with
        | some (.inr (0, n)) => if j < 0 ∨ n ≤ j.toNatClampNeg then none else qx_go np ls st (qx_up M i j.toNatClampNeg x)
        | _ => none
      | _ => none
    | .bastore => match st with
      | .int x :: .int j :: .ref i :: st => match qx_sh i with
        | some (.inr (1, n)) => if j < 0 ∨ n ≤ j.toNatClampNeg then none else qx_go np ls st (qx_up M i j.toNatClampNeg x.toInt8.toInt32)
        | some (.inr (2, n)) => if j < 0 ∨ n ≤ j.toNatClampNeg then none else if x = 0 ∨ x = 1 then qx_go np ls st (qx_up M i j.toNatClampNeg x) else none
        | _ => none
      | _ => none
    | .lastore => match st with
      | .long x :: .int j :: .ref i :: st => match qx_sh i with
        | some (.inr (4, n)) => if j < 0 ∨ n ≤ j.toNatClampNeg then none else qx_go np ls st (M.1, vp_updL M.2.1 j.toNatClampNeg x, M.2.2)
        | _ => none
      | _ => none
    | .dastore => match st with
      | .double x :: .int j :: .ref i :: st => match qx_sh i with
        | some (.inr (5, n)) => if j < 0 ∨ n ≤ j.toNatClampNeg then none else qx_go np ls st (M.1, M.2.1, vf_upd M.2.2 j.toNatClampNeg x)
        | _ => none
      | _ => none
    | .getfield _ => match st with
      | .ref i :: st => if qx_sh i = some (.inl a) then (match qx_fo a b with
        | none => qx_go np ls (.int (M.1 i b) :: st) M
        | some o => qx_go np ls (.ref (i + o) :: st) M) else none
      | _ => none
    | .putfield _ => match st with
      | .int x :: .ref i :: st => if qx_sh i = some (.inl a) ∧ qx_fo a b = none ∧ (qx_bf a b = true → x = 0 ∨ x = 1) then qx_go np ls st (qx_up M i b x) else none
      | _ => none
    | .ireturn => match st with
      | [.int v] => match rt with
        | some .int => some (.inr (.inl (some (.int v))))
        | some .boolean => if v = 0 ∨ v = 1 then some (.inr (.inl (some (.int v)))) else none
        | _ => none
      | _ => none
    | .lreturn => match st with
      | [.long v] => if rt = some .long then some (.inr (.inl (some (.long v)))) else none
      | _ => none
    | .dreturn => match st with
      | [.double v] => if rt = some .double then some (.inr (.inl (some (.double v)))) else none
      | _ => none
    | .freturn => match st with
      | [.float v] => if rt = some .float then some (.inr (.inl (some (.float v)))) else none
      | _ => none
    | .areturn => match st with
      | [.ref v] => match rt with
        | some (.object _) => some (.inr (.inl (some (.ref v))))
        | _ => none
      | _ => none
    | .return_ => match st with
      | [] => if rt = none then some (.inr (.inl none)) else none
      | _ => none
    | .new _ => match st with
      | [] => if a < 3 then some (.inr (.inr (.inl (qx_ex a)))) else none
      | _ => none
    | .invokevirtual _ => match a with
      | 1000 => match st with
        | .ref i :: st => if (501 ≤ i ∧ i ≤ 505 ∨ 521 ≤ i ∧ i < 526) ∧ st.length ≤ 4 then qx_go np ls (.int (nI (qx_txc (i - 500)).length) :: st) M else none
        | _ => none
      | 1001 => match st with
        | .int j :: .ref i :: st => if (501 ≤ i ∧ i ≤ 505 ∨ 521 ≤ i ∧ i < 526) ∧ st.length ≤ 4 ∧ ¬ (j < 0 ∨ (qx_txc (i - 500)).length ≤ j.toNatClampNeg) then qx_go np ls (.int (nI ((qx_txc (i - 500)).getD j.toNatClampNeg 0)) :: st) M else none
        | _ => none
      | _ => if b ≤ st.length ∧ (st.drop b).length ≤ 4 then some (.inr (.inr (.inr (a, (st.take b).reverse, st.drop b)))) else none
    | .invokestatic _ => match a with
      | 1002 => match st with
        | .int y :: .int x :: st => if st.length ≤ 4 then qx_go np ls (.int (if x < y then y else x) :: st) M else none
        | _ => none
      | 1003 => match st with
        | .int y :: .int x :: st => if st.length ≤ 4 then qx_go np ls (.int (if y < x then y else x) :: st) M else none
        | _ => none
      | 1004 => match st with
        | .int n :: .int dp :: .ref i :: .int sp :: .ref i0 :: st => match qx_sh i0, qx_sh i with
          | some (.inr (0, n0)), some (.inr (0, n1)) => if ¬ sp < 0 ∧ ¬ dp < 0 ∧ ¬ n < 0 ∧ sp.toNatClampNeg + n.toNatClampNeg ≤ n0 ∧ dp.toNatClampNeg + n.toNatClampNeg ≤ n1 ∧ st.length ≤ 4 then qx_go np ls st (qx_ur M i (va_cpy (M.1 i0) (M.1 i) sp.toNatClampNeg dp.toNatClampNeg n.toNatClampNeg)) else none
          | _, _ => none
        | _ => none
      | _ => if b ≤ st.length ∧ (st.drop b).length ≤ 4 then some (.inr (.inr (.inr (a, (st.take b).reverse, st.drop b)))) else none
    | _ => none
