/-! What stays over a call; contracts out of a body. -/
theorem qx_V.warm {D : va_G} {ad : Nat → Nat} {cy : Nat → ClassId} {s U : State} (hW : s.WarmedH U.vm) (h : qx_V D ad cy s) : qx_V D ad cy U := by
  refine ⟨va_K.moved hW.alike h.1, fun w hw hk => ?_, fun k t ht => vk_R.warm hW (h.2.2.1 k t ht), fun q hq => va_Nc.moved hW.alike (h.2.2.2 q hq)⟩
  have h1 := h.2.1 w hw hk
  cases w <;> first
    | exact va_Nw.warmM hW h1
    | exact va_Nw.warmC hW h1
    | exact va_Nw.warmD hW h1
    | (simp [qx_nk] at hk)
theorem qx_S.moved {ad : Nat → Nat} {A : Nat → Prop} {u U : State} {H : Heap} (hvm : u.vm.Alike U.vm) (h : qx_S ad A u H) : qx_S ad A U H := by
  intro k t ht hk
  obtain ⟨a, h1, h2, h3, h4⟩ := h k t ht hk
  exact ⟨a, va_O.moved hvm h1, va_OF.moved hvm h2, va_OF.moved hvm h3, va_T.moved hvm h4⟩
theorem qx_S.kept {ad : Nat → Nat} {A : Nat → Prop} {U : State} {H H1 : Heap} (h : qx_S ad A U H) (hq : ∀ a : Nat, a < H.size → ¬ A a → H1[a]? = H[a]?) : qx_S ad A U H1 := by
  intro k t ht hk
  obtain ⟨a, h1, h2, h3, h4⟩ := h k t ht hk
  exact ⟨a, h1.kept hq, h2.kept hq, h3.kept hq, h4.kept hq⟩
theorem qx_S.narrow {ad : Nat → Nat} {A B : Nat → Prop} {U : State} {H : Heap} (h : qx_S ad A U H) (hAB : ∀ q, B q → A q) : qx_S ad B U H := by
  intro k t ht hk
  obtain ⟨a, h1, h2, h3, h4⟩ := h k t ht hk
  exact ⟨a, h1.narrow hAB, h2.narrow hAB, h3.narrow hAB, h4.narrow hAB⟩
theorem qx_K.moved {L : Nat} {xs : Nat → Int32} {ad : Nat → Nat} {A : Nat → Prop} {u U : State} {H : Heap} (hvm : u.vm.Alike U.vm) (h : qx_K L xs ad A u H) : qx_K L xs ad A U H := by
  obtain ⟨h1, h2, h3, h4, h5, h6, v, h7, h8, h9⟩ := h
  exact ⟨h1.moved hvm, h2, h3, vx_Zq.moved hvm h4, vx_Zq.moved hvm h5, h6.moved hvm, v, va_Z.moved hvm h7, va_Z.moved hvm h8, h9⟩
theorem qx_K.kept {L : Nat} {xs : Nat → Int32} {ad : Nat → Nat} {A : Nat → Prop} {U : State} {H H1 : Heap} (h : qx_K L xs ad A U H) (hz : H.size ≤ H1.size) (hq : ∀ a : Nat, a < H.size → ¬ A a → H1[a]? = H[a]?) : qx_K L xs ad A U H1 := by
  obtain ⟨h1, h2, h3, h4, h5, h6, v, h7, h8, h9⟩ := h
  exact ⟨h1.kept (hq _ h2 h3), Nat.lt_of_lt_of_le h2 hz, h3, h4.kept hq, h5.kept hq, h6.kept hq, v, h7.kept hq, h8.kept hq, h9⟩
theorem qx_K.narrow {L : Nat} {xs : Nat → Int32} {ad : Nat → Nat} {A B : Nat → Prop} {U : State} {H : Heap} (h : qx_K L xs ad A U H) (hAB : ∀ q, B q → A q) : qx_K L xs ad B U H := by
  obtain ⟨h1, h2, h3, h4, h5, h6, v, h7, h8, h9⟩ := h
  exact ⟨h1, h2, fun z => h3 (hAB _ z), h4.narrow hAB, h5.narrow hAB, h6.narrow hAB, v, h7.narrow hAB, h8.narrow hAB, h9⟩
def qx_AR (ad : Nat → Nat) (sz : Nat) : Nat → Prop := fun q => (∃ (j : Nat) (sp : Nat ⊕ (Nat × Nat)), (j, sp) ∈ qx_shL ∧ q = ad j) ∨ sz ≤ q
def qx_Pre (L : Nat) (xs : Nat → Int32) (D : va_G) (ad : Nat → Nat) (cy : Nat → ClassId) (M : qxM) (sz : Nat) : State → Prop := fun U => U.heap.size = sz ∧ qx_W D ad cy (qx_AR ad sz) M U.heap ∧ qx_V D ad cy U ∧ qx_K L xs ad (qx_AR ad sz) U U.heap
def qx_rm (d x : Nat) : Room := { frames := d + 8, cells := x, slots := 6 * x, locals := 41 * d + 200 }
theorem qx_AR_in {D : va_G} {ad : Nat → Nat} {cy : Nat → ClassId} {A : Nat → Prop} {M : qxM} {H H0 : Heap} {locs : List Loc} (hW : qx_W D ad cy A M H) (hS : va_S A H0 H locs) (hA : ∀ q, H0.size ≤ q → A q) : ∀ q, qx_AR ad H.size q → A q := by
  intro q h
  rcases h with ⟨j, sp, hm, rfl⟩ | h
  · obtain ⟨z, hz⟩ := List.getElem?_of_mem hm
    exact hW.2.2 z _ (qx_ws_at hz)
  · exact hA q (Nat.le_trans hS.1 h)
theorem qx_W.self {D : va_G} {ad : Nat → Nat} {cy : Nat → ClassId} {A : Nat → Prop} {M M1 : qxM} {H H1 : Heap} {sz : Nat} (h : qx_W D ad cy A M H) (h1 : va_P D vwCl (qx_ws ad cy M1) H1) : qx_W D ad cy (qx_AR ad sz) M1 H1 := by
  refine ⟨h1, ?_, ?_⟩
  · intro i j p q hi hj hpq
    unfold qx_ws at hi hj
    rw [List.getElem?_map] at hi hj
    cases h2 : qx_shL[i]? with
    | none => rw [h2] at hi; cases hi
    | some a =>
      cases h3 : qx_shL[j]? with
      | none => rw [h3] at hj; cases hj
      | some b =>
        rw [h2] at hi
        rw [h3] at hj
        refine h.2.1 i j (ad a.1, qx_cell ad cy M a.1 a.2) (ad b.1, qx_cell ad cy M b.1 b.2) (qx_ws_at (h := a.2) h2) (qx_ws_at (h := b.2) h3) ?_
        cases hi
        cases hj
        exact hpq
  · intro k q hk
    unfold qx_ws at hk
    rw [List.getElem?_map] at hk
    cases h2 : qx_shL[k]? with
    | none => rw [h2] at hk; cases hk
    | some a =>
      rw [h2] at hk
      cases hk
      exact Or.inl ⟨a.1, a.2, List.mem_of_getElem? h2, rfl⟩
theorem qx_W.keep {D : va_G} {ad : Nat → Nat} {cy : Nat → ClassId} {A : Nat → Prop} {M M1 : qxM} {H H1 : Heap} (h : qx_W D ad cy A M H) (h1 : va_P D vwCl (qx_ws ad cy M1) H1) : qx_W D ad cy A M1 H1 := by
  refine ⟨h1, (qx_W.self (sz := 0) h h1).2.1, ?_⟩
  intro k q hk
  unfold qx_ws at hk
  rw [List.getElem?_map] at hk
  cases h2 : qx_shL[k]? with
  | none => rw [h2] at hk; cases hk
  | some a =>
    rw [h2] at hk
    cases hk
    exact h.2.2 k (ad a.1, qx_cell ad cy M a.1 a.2) (qx_ws_at (h := a.2) h2)
theorem qx_blind {L : Nat} {xs : Nat → Int32} {D : va_G} {ad : Nat → Nat} {cy : Nat → ClassId} {M : qxM} {sz : Nat} {av : List Value} : FrameBlind (va_Pc av (qx_Pre L xs D ad cy M sz)) := by
  intro a U g mk h
  obtain ⟨h1, hsz, hW, hV, hK⟩ := h
  exact ⟨h1, hsz, hW, qx_V.warm (s := U) (State.WarmedH.refl U) hV, qx_K.moved (u := U) (Vm.Alike.refl U.vm) hK⟩
section QXM
variable {l : Launch}
theorem qx_ofM {y : MethodName} {cc : ByteArray} {mx : Nat} {rt : Option FieldType} {hh : List (Nat × Nat × Nat × Nat)} {rm : Room} {Pc : Array Value → State → Prop} {Qc : Array Value → State → Outcome → State → Prop} {mc ms : Nat} {free : Addr → Prop}
    (hy : plainName y.cls = true)
    (body : ∀ p e s m args below meth c s₁, BodyLoose p l y (headSpec (qx_cwd y cc mx rt hh :: qx_gts) rm) cc mx rt e s m args below meth c s₁ → c.maxLocals = mx → c.exceptionTable.toList = tableOf hh → Pc args s →
      W p l e rm s m args below meth c s.heap [] 0 0 (MQ below Qc args s mc ms free) (entryFrame m args mx)) : Met l y (qx_cwd y cc mx rt hh :: qx_gts) rm Pc Qc mc ms free := by
  cases hh with
  | nil =>
    refine Met.ofW (cc := cc) (maxL := mx) (ret := rt) hy rfl ?_
    intro p e s m args below meth c s₁ B hml hP
    refine body p e s m args below meth c s₁ B hml ?_ hP
    obtain ⟨meth9, c9, h1, h2, -, -, -, -, h7, -⟩ := Cond.code_spec B.named (atoms_spec (ws := Cond.code y cc mx rt :: qx_gts) B.pre _ List.mem_cons_self)
    cases Option.some.inj (h1.symm.trans B.method)
    cases Option.some.inj (h2.symm.trans (Stand.of_body B).code)
    rw [Array.isEmpty_iff.mp h7]
    rfl
  | cons h r =>
    refine MetFree.of_bodyS (code := cc) (maxLocals := mx) (ret := rt) hy ?_ ?_
    · intro args s m h9 hn
      obtain ⟨m9, meth, c, hn9, h1, h2, h3, h4, -, h5, h6, -⟩ := Cond.codeWith_spec (atoms_spec (ws := Cond.codeWith y cc mx rt (h :: r) :: qx_gts) h9 _ List.mem_cons_self)
      cases hn.symm.trans hn9
      exact ⟨meth, c, h1, h2, h3, h4, h5, h6⟩
    · intro p e s m args below meth c s₁ B hml hP _
      have hh0 : s₁.heap = s.heap := by rw [B.state]; rfl
      have ht : c.exceptionTable.toList = tableOf (h :: r) := vx_table (x := y) B (atoms_spec (ws := Cond.codeWith y cc mx rt (h :: r) :: qx_gts) B.pre _ List.mem_cons_self)
      obtain ⟨t, a1, o, b1, b2, b3⟩ := body p e s m args below meth c s₁ B hml ht hP s₁ hh0 (Stand.of_body B)
      exact ⟨t, o, a1, b1, b2, ⟨b3.1, b3.2⟩⟩
theorem qx_ofX {y : MethodName} {cc : ByteArray} {mx : Nat} {rt : Option FieldType} {rm : Room} {Pc : Array Value → State → Prop} {Qc : Array Value → State → Outcome → State → Prop} {XC : String → State → State → Prop} {mc ms : Nat} {free : Addr → Prop}
    (hy : plainName y.cls = true)
    (body : ∀ p e s m args below meth c s₁, BodyLoose p l y (headSpec (qx_cwd y cc mx rt [] :: qx_gts) rm) cc mx rt e s m args below meth c s₁ → c.maxLocals = mx → c.exceptionTable.toList = tableOf [] → Pc args s →
      W p l e rm s m args below meth c s.heap [] 0 0 (vx_MQ below Qc XC args s mc ms free) (entryFrame m args mx)) : vx_Met l y (qx_cwd y cc mx rt [] :: qx_gts) rm Pc Qc XC mc ms free := by
  refine vx_ofW (cc := cc) (maxL := mx) (ret := rt) hy rfl ?_
  intro p e s m args below meth c s₁ B hml ht hP
  exact body p e s m args below meth c s₁ B hml (List.eq_nil_iff_forall_not_mem.mpr ht) hP
end QXM
theorem qx_lv_none (ad : Nat → Nat) : ∀ (k o : Nat), qx_lv ad o (List.replicate k none) = [] := by
  intro k
  induction k with
  | zero => intro o; rfl
  | succ k ih => intro o; exact ih (o + 1)
theorem qx_lv_en (ad : Nat → Nat) (k : Nat) : ∀ (as : List Value) (o : Nat), (as.all fun v => v.category == 1) = true → qx_lv ad o (as.map some ++ List.replicate k none) = lv_args o (as.map (qx_rv ad)) := by
  intro as
  induction as with
  | nil => intro o _; exact qx_lv_none ad k o
  | cons a r ih =>
    intro o h
    simp only [List.all_cons, Bool.and_eq_true, beq_iff_eq] at h
    show (o, qx_rv ad a) :: qx_lv ad (o + 1) (r.map some ++ List.replicate k none) = (o, qx_rv ad a) :: lv_args (if (qx_rv ad a).category = 2 then o + 2 else o + 1) (r.map (qx_rv ad))
    rw [if_neg (by rw [qx_cat, h.1]; decide), ih (o + 1) h.2]
theorem qx_sl_len (ad : Nat → Nat) : ∀ as : List Value, (as.all fun v => v.category == 1) = true → (lg_sl (as.map (qx_rv ad))).length = as.length := by
  intro as
  induction as with
  | nil => intro _; rfl
  | cons a r ih =>
    intro h
    simp only [List.all_cons, Bool.and_eq_true, beq_iff_eq] at h
    have h1 := ih h.2
    unfold lg_sl at h1 ⊢
    rw [List.map_cons, List.flatMap_cons, if_neg (by rw [qx_cat, h.1]; decide), List.length_append, h1, List.length_cons]
    simp [Nat.add_comm]
/-- the locals at a method's start -/
theorem qx_entry {ad : Nat → Nat} {as : List Value} {mx : Nat} (hc : (as.all fun v => v.category == 1) = true) (hn : as.length ≤ mx) :
    lv_has ((lg_sl (as.map (qx_rv ad)) ++ List.replicate (mx - (lg_sl (as.map (qx_rv ad))).length) Slot.unset).toArray) mx (qx_lv ad 0 (qx_en mx as)) ∧ (qx_en mx as).length = mx := by
  refine ⟨?_, ?_⟩
  · unfold qx_en
    rw [qx_lv_en ad _ as 0 hc]
    exact lv_entry (as.map (qx_rv ad)) (n := mx) (by rw [qx_sl_len ad as hc]; exact hn)
  · unfold qx_en
    simp
    omega
