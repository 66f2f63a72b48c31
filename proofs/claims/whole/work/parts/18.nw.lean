/-! The constructors' cells in the heap. -/
def qx_ne (cy : Nat → ClassId) (ads : Nat → Nat) (e : qxNe) : va_E := match e with
  | .inl o => .inr (o.1, o.2.map (qx_rv ads))
  | .inr t => .inl (cy t.1, t.2.1, match t.1 with
    | 4 => .inr (.inl (fun _ => 0))
    | 5 => .inr (.inr (.inr (.inl (fun _ => 0))))
    | 3 => .inr (.inr (.inr (.inr (fun j => (t.2.2[j]?).map ads))))
    | _ => .inl (fun _ => 0))
def qx_nw (cy : Nat → ClassId) (ads : Nat → Nat) (cs : qxN) : va_W := cs.mapIdx (fun k e => (ads k, qx_ne cy ads e))
def qx_nci (cs : qxN) : Prop := ∀ e ∈ cs, qx_nce cs.length e = true
def qx_agr (n : Nat) (ads ads' : Nat → Nat) : Prop := ∀ k, k < n ∨ k = 999 → ads' k = ads k
def qx_n1 (e : qxNe) : Nat := match e with
  | .inl o => qx_nf o.1
  | .inr t => t.2.1
def qx_nsl (cs : qxN) : Nat := (cs.map qx_n1).sum
theorem qx_nw_at {cy : Nat → ClassId} {ads : Nat → Nat} {cs : qxN} {k : Nat} {e : qxNe} (h : cs[k]? = some e) : (qx_nw cy ads cs)[k]? = some (ads k, qx_ne cy ads e) := by
  unfold qx_nw
  rw [List.getElem?_mapIdx, h]
  rfl
theorem qx_nw_set {cy : Nat → ClassId} {ads : Nat → Nat} {cs : qxN} {i : Nat} {e0 e : qxNe} (h : cs[i]? = some e0) : (qx_nw cy ads cs).set i (ads i, qx_ne cy ads e) = qx_nw cy ads (cs.set i e) := by
  have hi : i < cs.length := (List.getElem?_eq_some_iff.mp h).1
  apply List.ext_getElem?
  intro k
  unfold qx_nw
  rw [List.getElem?_set, List.getElem?_mapIdx, List.getElem?_mapIdx, List.getElem?_set, List.length_mapIdx]
  by_cases hk : i = k
  · subst hk
    rw [if_pos rfl, if_pos hi, if_pos rfl, if_pos hi]
    rfl
  · rw [if_neg hk, if_neg hk]
theorem qx_rv_agr {n : Nat} {ads ads' : Nat → Nat} (h : qx_agr n ads ads') {v : Value} (hv : qx_nok n v = true) : qx_rv ads' v = qx_rv ads v := by
  cases v with
  | ref r =>
    unfold qx_nok at hv
    simp only [Bool.or_eq_true, decide_eq_true_eq, beq_iff_eq] at hv
    show Value.ref (ads' r) = Value.ref (ads r)
    rw [h r hv]
  | _ => rfl
theorem qx_ne_agr {cy : Nat → ClassId} {n : Nat} {ads ads' : Nat → Nat} (h : qx_agr n ads ads') {e : qxNe} (he : qx_nce n e = true) : qx_ne cy ads' e = qx_ne cy ads e := by
  cases e with
  | inl o =>
    unfold qx_nce at he
    show (Sum.inr (o.1, o.2.map (qx_rv ads')) : va_E) = Sum.inr (o.1, o.2.map (qx_rv ads))
    congr 2
    exact List.map_congr_left (fun v hv => qx_rv_agr h (List.all_eq_true.mp he v hv))
  | inr t =>
    unfold qx_nce at he
    have h1 : (fun (j : Nat) => (t.2.2[j]?).map ads') = (fun (j : Nat) => (t.2.2[j]?).map ads) := by
      funext j
      cases hj : t.2.2[j]? with
      | none => rfl
      | some v =>
        have h2 := List.all_eq_true.mp he v (List.mem_of_getElem? hj)
        simp only [decide_eq_true_eq] at h2
        show some (ads' v) = some (ads v)
        rw [h v (Or.inl h2)]
    unfold qx_ne
    dsimp only
    rw [h1]
theorem qx_nw_agr {cy : Nat → ClassId} {cs : qxN} {ads ads' : Nat → Nat} (h : qx_agr cs.length ads ads') (hc : qx_nci cs) : qx_nw cy ads' cs = qx_nw cy ads cs := by
  apply List.ext_getElem?
  intro k
  unfold qx_nw
  rw [List.getElem?_mapIdx, List.getElem?_mapIdx]
  cases hk : cs[k]? with
  | none => rfl
  | some e =>
    show some (ads' k, qx_ne cy ads' e) = some (ads k, qx_ne cy ads e)
    rw [h k (Or.inl (List.getElem?_eq_some_iff.mp hk).1), qx_ne_agr h (hc e (List.mem_of_getElem? hk))]
theorem qx_nw_push {cy : Nat → ClassId} {ads ads' : Nat → Nat} {cs : qxN} {q : Nat} {e : qxNe} {x : va_E} (hc : qx_nci cs) (h : qx_agr cs.length ads ads') (hq : ads' cs.length = q) (hx : x = qx_ne cy ads' e) : qx_nw cy ads cs ++ [(q, x)] = qx_nw cy ads' (cs ++ [e]) := by
  rw [← qx_nw_agr h hc]
  apply List.ext_getElem?
  intro k
  have hlen : ∀ a, (qx_nw cy a cs).length = cs.length := fun a => by unfold qx_nw; rw [List.length_mapIdx]
  rw [List.getElem?_append]
  by_cases hk : k < cs.length
  · rw [if_pos (by rw [hlen]; exact hk)]
    unfold qx_nw
    rw [List.getElem?_mapIdx, List.getElem?_mapIdx, List.getElem?_append_left hk]
  · rw [if_neg (by rw [hlen]; exact hk), hlen]
    unfold qx_nw
    rw [List.getElem?_mapIdx, List.getElem?_append_right (by omega)]
    by_cases h1 : k - cs.length = 0
    · have h2 : k = cs.length := by omega
      rw [h1, h2, ← hq, hx]
      rfl
    · rw [List.getElem?_eq_none (by simp; omega), List.getElem?_eq_none (by simp; omega)]
      rfl
theorem qx_nce_mono {n n' : Nat} (h : n ≤ n') {e : qxNe} (he : qx_nce n e = true) : qx_nce n' e = true := by
  cases e with
  | inl o =>
    unfold qx_nce at he ⊢
    rw [List.all_eq_true] at he ⊢
    intro v hv
    have h1 := he v hv
    cases v with
    | ref r =>
      have h2 : (decide (r < n) || r == 999) = true := h1
      show (decide (r < n') || r == 999) = true
      simp only [Bool.or_eq_true, decide_eq_true_eq, beq_iff_eq] at h2 ⊢
      rcases h2 with h2 | h2
      · exact Or.inl (Nat.lt_of_lt_of_le h2 h)
      · exact Or.inr h2
    | int _ => rfl
    | null => rfl
    | _ => cases h1
  | inr t =>
    unfold qx_nce at he ⊢
    rw [List.all_eq_true] at he ⊢
    intro v hv
    have h1 := he v hv
    simp only [decide_eq_true_eq] at h1 ⊢
    omega
theorem qx_nci_push {cs : qxN} {e : qxNe} (hc : qx_nci cs) (he : qx_nce (cs.length + 1) e = true) : qx_nci (cs ++ [e]) := by
  intro z hz
  rw [List.length_append]
  rcases List.mem_append.mp hz with h | h
  · exact qx_nce_mono (Nat.le_succ _) (hc z h)
  · cases List.mem_singleton.mp h
    exact he
theorem qx_nci_set {cs : qxN} {i : Nat} {e : qxNe} (hc : qx_nci cs) (he : qx_nce cs.length e = true) : qx_nci (cs.set i e) := by
  intro z hz
  rw [List.length_set]
  rcases List.mem_or_eq_of_mem_set hz with h | h
  · exact hc z h
  · rw [h]; exact he
theorem qx_nsl_push {cs : qxN} {e : qxNe} : qx_nsl (cs ++ [e]) = qx_nsl cs + qx_n1 e := by
  unfold qx_nsl
  rw [List.map_append, List.sum_append]
  simp only [List.map_cons, List.map_nil, List.sum_cons, List.sum_nil, Nat.add_zero]
theorem qx_nsl_set {cs : qxN} {i : Nat} {e0 e : qxNe} (h : cs[i]? = some e0) (he : qx_n1 e = qx_n1 e0) : qx_nsl (cs.set i e) = qx_nsl cs := by
  unfold qx_nsl
  congr 1
  apply List.ext_getElem?
  intro k
  rw [List.getElem?_map, List.getElem?_map, List.getElem?_set]
  have hi : i < cs.length := (List.getElem?_eq_some_iff.mp h).1
  by_cases hk : i = k
  · subst hk
    rw [if_pos rfl, if_pos hi, h]
    exact congrArg some he
  · rw [if_neg hk]
def qx_nad (ads : Nat → Nat) (n q : Nat) : Nat → Nat := fun k => if k = n then q else ads k
theorem qx_nad_agr {ads : Nat → Nat} {n q : Nat} (hn : n < 999) : qx_agr n ads (qx_nad ads n q) := by
  intro k hk
  unfold qx_nad
  rw [if_neg (by omega)]
theorem qx_nlv_agr {n : Nat} {ads ads' : Nat → Nat} (h : qx_agr n ads ads') : ∀ (ls : qxL) (o : Nat), qx_nls n ls = true → qx_lv ads' o ls = qx_lv ads o ls := by
  intro ls
  induction ls with
  | nil => intro o _; rfl
  | cons a r ih =>
    intro o hl
    unfold qx_nls at hl
    rw [List.all_cons, Bool.and_eq_true] at hl
    cases a with
    | none => exact ih (o + 1) hl.2
    | some v =>
      show (o, qx_rv ads' v) :: qx_lv ads' (o + 1) r = (o, qx_rv ads v) :: qx_lv ads (o + 1) r
      rw [ih (o + 1) hl.2, qx_rv_agr h hl.1]
theorem qx_nst_agr {n : Nat} {ads ads' : Nat → Nat} (h : qx_agr n ads ads') {st : List Value} (hs : st.all (qx_nok n) = true) : st.map (qx_rv ads') = st.map (qx_rv ads) :=
  List.map_congr_left (fun v hv => qx_rv_agr h (List.all_eq_true.mp hs v hv))
theorem qx_ndf_ok : ∀ (ci : Nat) (c : vw_C), vwCl[ci]? = some c → ∃ ty0 : Nat → FieldType, (∀ k, k < c.2.2 → parseFieldDescriptor (c.2.1 k).2.2.1 = some (ty0 k)) ∧ (∀ k, k < c.2.2 → defaultValue (ty0 k) = vp_V (qx_ndf ci) k) ∧ qx_nce 0 (.inl (ci, qx_ndf ci)) = true := by
  intro ci c h
  match ci, h with
  | 0, h => cases h; exact ⟨tyX0, tyX0_ok, by decide +kernel, by decide +kernel⟩
  | 1, h => cases h; exact ⟨tyX1, tyX1_ok, by decide +kernel, by decide +kernel⟩
  | 2, h => cases h; exact ⟨tyX2, tyX2_ok, by decide +kernel, by decide +kernel⟩
  | 3, h => cases h; exact ⟨tyX3, tyX3_ok, by decide +kernel, by decide +kernel⟩
  | 4, h => cases h; exact ⟨tyX4, tyX4_ok, by decide +kernel, by decide +kernel⟩
  | 5, h => cases h; exact ⟨tyX5, tyX5_ok, by decide +kernel, by decide +kernel⟩
  | 6, h => cases h; exact ⟨tyX6, tyX6_ok, by decide +kernel, by decide +kernel⟩
  | 7, h => cases h; exact ⟨tyX7, tyX7_ok, by decide +kernel, by decide +kernel⟩
  | 8, h => cases h; exact ⟨tyX8, tyX8_ok, by decide +kernel, by decide +kernel⟩
  | n + 9, h => simp at h
def qx_isr (ty : FieldType) : Bool := match ty with
  | .object _ => true
  | .array _ => true
  | _ => false
theorem qx_isr_ok {ty : FieldType} (h : qx_isr ty = true) (r : Nat) : narrow ty (.ref r) = .ref r ∧ fits ty (.ref r) = true := by
  cases ty <;> first | (cases h; done) | exact ⟨rfl, rfl⟩
theorem qx_ref_ty : ∀ ci, ci < 9 → ∀ b, b < 30 → (qx_fo ci b).isSome = true → (match vwCl[ci]? with
    | some c => (match parseFieldDescriptor (c.2.1 b).2.2.1 with
      | some ty => qx_isr ty
      | none => false)
    | none => false) = true := by decide +kernel
theorem qx_nfit_ok {a b : Nat} {v : Value} {c : vw_C} {ads : Nat → Nat} (hc : vwCl[a]? = some c) (h : qx_nfit a b v = true) (hb : b < c.2.2) : ∃ ty : FieldType, parseFieldDescriptor (c.2.1 b).2.2.1 = some ty ∧ narrow ty (qx_rv ads v) = qx_rv ads v ∧ fits ty (qx_rv ads v) = true := by
  have ha : a < 9 := (List.getElem?_eq_some_iff.mp hc).1
  have hb30 : b < 30 := by
    have h1 : vwCl.all (fun c => decide (c.2.2 ≤ 30)) = true := by decide +kernel
    have h2 := List.all_eq_true.mp h1 c (List.mem_of_getElem? hc)
    simp only [decide_eq_true_eq] at h2
    omega
  cases v with
  | int x =>
    unfold qx_nfit at h
    simp only [hc, Bool.and_eq_true, decide_eq_true_eq] at h
    exact ⟨.int, by rw [h.2]; decide +kernel, rfl, rfl⟩
  | ref r =>
    have h1 := qx_ref_ty a ha b hb30 h
    rw [hc] at h1
    dsimp only at h1
    cases hp : parseFieldDescriptor (c.2.1 b).2.2.1 with
    | none => rw [hp] at h1; cases h1
    | some ty =>
      rw [hp] at h1
      exact ⟨ty, rfl, qx_isr_ok h1 _⟩
  | _ => cases h
