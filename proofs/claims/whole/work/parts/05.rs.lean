/-! The methods' runs, as a partial function, and its unfolding. -/
def qx_code (y pc : Nat) : Option qxE := ((qx_kcs[y]?).getD []).find? (fun e => e.1 == pc)
def qx_rt (y : Nat) : Option FieldType := match qx_mis[y]? with
  | some i => i.2.2.2.2.1
  | none => none
def qx_ml (y : Nat) : Nat := match qx_mis[y]? with
  | some i => i.2.2.2.1
  | none => 0
/-- a method's locals at its start -/
def qx_en (n : Nat) (as : List Value) : qxL := as.map some ++ List.replicate (n - as.length) none
/-- the handler that takes an exception -/
def qx_hd (y pc : Nat) (E : String) : Option (Nat × Nat) := (qx_hls.find? (fun h => h.1 == y && (decide (h.2.1 ≤ pc) && (decide (pc < h.2.2.1) && h.2.2.2.1 == E)))).map (fun h => (h.2.2.2.2.2.2.1, h.2.2.2.2.2.1))
/-- whether a method is static; its handlers -/
def qx_ss (y : Nat) : Bool := match qx_mis[y]? with
  | some i => i.2.2.2.2.2.1
  | none => true
def qx_hh (y : Nat) : List (Nat × Nat × Nat × Nat) := match qx_mis[y]? with
  | some i => i.2.2.2.2.2.2.2.1
  | none => []
def Rs (L : Nat) (xs : Nat → Int32) (d y pc : Nat) (ls : qxL) (st : List Value) (M : qxM) (x : Nat) : Option qxO :=
  match qx_code y pc with
  | none => none
  | some e =>
    match qx_act L xs (qx_rt y) e ls st M with
    | none => none
    | some (.inl q) => Rs L xs d y q.1 q.2.1 q.2.2.1 q.2.2.2 x
    | some (.inr (.inl v)) => some (.inl v, M, x)
    | some (.inr (.inr (.inl E))) => some (.inr E, M, x + 1)
    | some (.inr (.inr (.inr c))) =>
      match d with
      | 0 => none
      | d1 + 1 => (Rs L xs d1 c.1 0 (qx_en (qx_ml c.1) c.2.1) [] M 0) >>= fun r =>
        match r.1 with
        | .inl v => Rs L xs (d1 + 1) y e.2.2.1 ls (v.toList ++ c.2.2) r.2.1 (x + r.2.2)
        | .inr E => if qx_ss c.1 = true then none else match qx_hd y pc E with
          | some h => Rs L xs (d1 + 1) y h.1 (ls.set h.2 none) [] r.2.1 (x + r.2.2)
          | none => if qx_hh y = [] then some (.inr E, r.2.1, x + r.2.2) else none
partial_fixpoint
