/-! The methods' runs, as a partial function, and its unfolding. -/
def qx_code (y pc : Nat) : Option qxE := ((qx_kcs[y]?).getD []).find? (fun e => e.1 == pc)
def qx_rt (y : Nat) : Option FieldType := match qx_mis[y]? with
  | some i => i.2.2.2.2.1
  | none => none
def qx_ml (y : Nat) : Nat := match qx_mis[y]? with
  | some i => i.2.2.2.1
  | none => 0
/-- a method's locals at its start -/
def qx_en (n : Nat) (as : List Value) : qxL := as.map some ++ List.replicate (n - as.length) none
/-- whether a method is static; its handlers -/
def qx_ss (y : Nat) : Bool := match qx_mis[y]? with
  | some i => i.2.2.2.2.2.1
  | none => true
def qx_hh (y : Nat) : List (Nat × Nat × Nat × Nat) := match qx_mis[y]? with
  | some i => i.2.2.2.2.2.2.2.1
  | none => []
/-- the class of a method's own objects -/
def qx_cn (y : Nat) : Nat := if y < 19 then 0 else if y < 34 then 1 else if y < 53 then 2 else if y < 73 then 3 else if y < 79 then 4 else if y < 85 then 5 else if y < 92 then 6 else if y < 177 then 7 else if y < 334 then 8 else 99
/-- a method's handlers: (method, from, to, exception, handler, local, next place, pool index, word) -/
def qx_hs (y : Nat) : List (Nat × Nat × Nat × String × Nat × Nat × Nat × Nat × Nat) := qx_hls.filter (fun h => h.1 == y)
/-- the handler that takes an exception -/
def qx_hd (y pc : Nat) (E : String) : Option (Nat × Nat) := ((qx_hs y).find? (fun h => decide (h.2.1 ≤ pc) && (decide (pc < h.2.2.1) && h.2.2.2.1 == E))).map (fun h => (h.2.2.2.2.2.2.1, h.2.2.2.2.2.1))
/-- what a call's arguments must be -/
def qx_args (y : Nat) (as : List Value) : Bool := decide (as.length ≤ qx_ml y) && (as.all (fun v => v.category == 1) && (qx_ss y || match as with
  | .ref i :: _ => decide (qx_sh i = some (.inl (qx_cn y)))
  | _ => false))
def Rs (L : Nat) (xs : Nat → Int32) (d y pc : Nat) (ls : qxL) (st : List Value) (M : qxM) (x : Nat) : Option qxO :=
  match qx_code y pc with
  | none => none
  | some e =>
    match qx_act L xs (qx_rt y) e ls st M with
    | none => none
    | some (.inl q) => Rs L xs d y q.1 q.2.1 q.2.2.1 q.2.2.2 x
    | some (.inr (.inl v)) => some (.inl v, M, x)
    | some (.inr (.inr (.inl E))) => if qx_hh y = [] then some (.inr E, M, x + 1) else none
    | some (.inr (.inr (.inr c))) =>
      match d with
      | 0 => none
      | d1 + 1 => if qx_args c.1 c.2.1 = true then (Rs L xs d1 c.1 0 (qx_en (qx_ml c.1) c.2.1) [] M 0) >>= fun r =>
        match r.1 with
        | .inl v => Rs L xs (d1 + 1) y e.2.2.1 ls (v.toList ++ c.2.2) r.2.1 (x + r.2.2)
        | .inr E => if qx_ss c.1 = true then none else match qx_hd y pc E with
          | some h => if qx_c1 ls h.2 = true ∧ h.2 < ls.length then Rs L xs (d1 + 1) y h.1 (ls.set h.2 none) [] r.2.1 (x + r.2.2) else none
          | none => if qx_hh y = [] then some (.inr E, r.2.1, x + r.2.2) else none
        else none
partial_fixpoint
