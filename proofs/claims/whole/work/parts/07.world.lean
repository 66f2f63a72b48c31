/-! The numbered cells in the machine's heap. -/
def qx_rv (ad : Nat → Nat) (v : Value) : Value := match v with
  | .ref i => .ref (ad i)
  | v => v
def qx_tys (cy : Nat → ClassId) : List (ClassId × FieldType) := [(cy 0, .int), (cy 1, .byte), (cy 2, .boolean), (cy 3, .object RX4), (cy 4, .long), (cy 5, .double)]
def qx_nf (ci : Nat) : Nat := match vwCl[ci]? with
  | some c => c.2.2
  | none => 0
def qx_fv (ad : Nat → Nat) (M : qxM) (i ci k : Nat) : Value := match qx_fo ci k with
  | none => .int (M.1 i k)
  | some o => .ref (ad (i + o))
def qx_row (ad : Nat → Nat) (M : qxM) (i t : Nat) : (Nat → Int32) ⊕ (Nat → Int64) ⊕ (Nat → UInt32) ⊕ (Nat → UInt64) ⊕ (Nat → Option Nat) := match t with
  | 4 => .inr (.inl M.2.1)
  | 5 => .inr (.inr (.inr (.inl M.2.2)))
  | 3 => .inr (.inr (.inr (.inr (fun j => some (ad (qx_ar i j))))))
  | _ => .inl (M.1 i)
def qx_cell (ad : Nat → Nat) (cy : Nat → ClassId) (M : qxM) (i : Nat) (h : Nat ⊕ (Nat × Nat)) : va_E := match h with
  | .inl ci => .inr (ci, (List.range (qx_nf ci)).map (qx_fv ad M i ci))
  | .inr t => .inl (cy t.1, t.2, qx_row ad M i t.1)
def qx_ws (ad : Nat → Nat) (cy : Nat → ClassId) (M : qxM) : va_W := qx_shL.map (fun q => (ad q.1, qx_cell ad cy M q.1 q.2))
theorem qx_nd : ∀ i : Nat, i < qx_shL.length → ∀ j : Nat, j < qx_shL.length → (qx_shL[i]?).map (fun q => q.1) = (qx_shL[j]?).map (fun q => q.1) → i = j := by decide +kernel
theorem qx_sh_at {i : Nat} {h : Nat ⊕ (Nat × Nat)} (hs : qx_sh i = some h) : ∃ q : Nat, qx_shL[q]? = some (i, h) := by
  unfold qx_sh at hs
  cases hf : qx_shL.find? (fun q => q.1 == i) with
  | none => rw [hf] at hs; cases hs
  | some z =>
    rw [hf] at hs
    obtain ⟨a, b⟩ := z
    have h1 : b = h := Option.some.inj hs
    have h2 := List.find?_some hf
    have h3 : a = i := by simpa using h2
    subst h1; subst h3
    obtain ⟨q, hq⟩ := List.getElem?_of_mem (List.mem_of_find?_eq_some hf)
    exact ⟨q, hq⟩
theorem qx_ws_at {ad : Nat → Nat} {cy : Nat → ClassId} {M : qxM} {i q : Nat} {h : Nat ⊕ (Nat × Nat)} (hq : qx_shL[q]? = some (i, h)) : (qx_ws ad cy M)[q]? = some (ad i, qx_cell ad cy M i h) := by
  unfold qx_ws
  rw [List.getElem?_map, hq]
  rfl
theorem qx_ws_set {ad : Nat → Nat} {cy : Nat → ClassId} {M M' : qxM} {i q : Nat} {h : Nat ⊕ (Nat × Nat)} {e : va_E} (hq : qx_shL[q]? = some (i, h)) (he : e = qx_cell ad cy M' i h)
    (ho : ∀ j sp, (j, sp) ∈ qx_shL → j ≠ i → qx_cell ad cy M' j sp = qx_cell ad cy M j sp) : (qx_ws ad cy M).set q (ad i, e) = qx_ws ad cy M' := by
  apply List.ext_getElem?
  intro k
  rw [List.getElem?_set]
  have hlen : (qx_ws ad cy M).length = qx_shL.length := by unfold qx_ws; rw [List.length_map]
  have hql : q < qx_shL.length := (List.getElem?_eq_some_iff.mp hq).1
  by_cases hk : q = k
  · subst hk
    rw [if_pos rfl, if_pos (by rw [hlen]; exact hql), qx_ws_at hq, he]
  · rw [if_neg hk]
    cases hz : qx_shL[k]? with
    | none =>
      unfold qx_ws
      rw [List.getElem?_map, List.getElem?_map, hz]
      rfl
    | some z =>
      obtain ⟨j, sp⟩ := z
      rw [qx_ws_at hz, qx_ws_at hz]
      have hji : j ≠ i := by
        intro hji
        apply hk
        apply qx_nd q hql k (List.getElem?_eq_some_iff.mp hz).1
        rw [hq, hz, hji]
        rfl
      rw [ho j sp (List.mem_of_getElem? hz) hji]
theorem qx_cell_up {ad : Nat → Nat} {cy : Nat → ClassId} {M : qxM} {i k : Nat} {v : Int32} {j : Nat} (sp : Nat ⊕ (Nat × Nat)) (hj : j ≠ i) : qx_cell ad cy (qx_up M i k v) j sp = qx_cell ad cy M j sp := by
  have e1 : ∀ ci, qx_fv ad (qx_up M i k v) j ci = qx_fv ad M j ci := by
    intro ci
    funext z
    unfold qx_fv qx_up
    simp [hj]
  have e2 : ∀ t, qx_row ad (qx_up M i k v) j t = qx_row ad M j t := by
    intro t
    unfold qx_row qx_up
    simp [hj]
  cases sp with
  | inl ci => unfold qx_cell; simp only [e1]
  | inr t => unfold qx_cell; simp only [e2]
theorem qx_cell_ur {ad : Nat → Nat} {cy : Nat → ClassId} {M : qxM} {i : Nat} {f : Nat → Int32} {j : Nat} (sp : Nat ⊕ (Nat × Nat)) (hj : j ≠ i) : qx_cell ad cy (qx_ur M i f) j sp = qx_cell ad cy M j sp := by
  have e1 : ∀ ci, qx_fv ad (qx_ur M i f) j ci = qx_fv ad M j ci := by
    intro ci
    funext z
    unfold qx_fv qx_ur
    simp [hj]
  have e2 : ∀ t, qx_row ad (qx_ur M i f) j t = qx_row ad M j t := by
    intro t
    unfold qx_row qx_ur
    simp [hj]
  cases sp with
  | inl ci => unfold qx_cell; simp only [e1]
  | inr t => unfold qx_cell; simp only [e2]
/-- the long row and the double row are one cell each -/
theorem qx_sole : ∀ q, q ∈ qx_shL → (q.2 = .inr (4, 1) → q.1 = 2) ∧ (q.2 = .inr (5, 1) → q.1 = 3) ∧ (∀ n, q.2 = .inr (4, n) → q.1 = 2) ∧ (∀ n, q.2 = .inr (5, n) → q.1 = 3) := by
  have h : qx_shL.all (fun q => match q.2 with
    | .inr (4, n) => q.1 == 2
    | .inr (5, n) => q.1 == 3
    | _ => true) = true := by decide +kernel
  intro q hq
  have h1 := List.all_eq_true.mp h q hq
  obtain ⟨i, sp⟩ := q
  refine ⟨?_, ?_, ?_, ?_⟩
  · rintro rfl; simpa using h1
  · rintro rfl; simpa using h1
  · rintro n rfl; simpa using h1
  · rintro n rfl; simpa using h1
def qx_lu (M : qxM) (k : Nat) (v : Int64) : qxM := (M.1, vp_updL M.2.1 k v, M.2.2)
def qx_du (M : qxM) (k : Nat) (v : UInt64) : qxM := (M.1, M.2.1, vf_upd M.2.2 k v)
theorem qx_cell_lu {ad : Nat → Nat} {cy : Nat → ClassId} {M : qxM} {k : Nat} {v : Int64} {j : Nat} {sp : Nat ⊕ (Nat × Nat)} (hm : (j, sp) ∈ qx_shL) (hj : j ≠ 2) : qx_cell ad cy (qx_lu M k v) j sp = qx_cell ad cy M j sp := by
  cases sp with
  | inl ci => rfl
  | inr t =>
    obtain ⟨t, n⟩ := t
    have h4 : t ≠ 4 := by
      rintro rfl
      exact hj ((qx_sole _ hm).2.2.1 n rfl)
    unfold qx_cell qx_row
    dsimp only
    split
    · exact absurd rfl h4
    all_goals rfl
theorem qx_cell_du {ad : Nat → Nat} {cy : Nat → ClassId} {M : qxM} {k : Nat} {v : UInt64} {j : Nat} {sp : Nat ⊕ (Nat × Nat)} (hm : (j, sp) ∈ qx_shL) (hj : j ≠ 3) : qx_cell ad cy (qx_du M k v) j sp = qx_cell ad cy M j sp := by
  cases sp with
  | inl ci => rfl
  | inr t =>
    obtain ⟨t, n⟩ := t
    have h4 : t ≠ 5 := by
      rintro rfl
      exact hj ((qx_sole _ hm).2.2.2 n rfl)
    unfold qx_cell qx_row
    dsimp only
    split
    · rfl
    · exact absurd rfl h4
    all_goals rfl
/-- locals, as the machine has them -/
def qx_lv (ad : Nat → Nat) : Nat → qxL → List (Nat × Value)
  | _, [] => []
  | i, none :: r => qx_lv ad (i + 1) r
  | i, some v :: r => (i, qx_rv ad v) :: qx_lv ad (i + 1) r
theorem qx_lv_mem {ad : Nat → Nat} : ∀ (ls : qxL) (o : Nat) (q : Nat × Value), q ∈ qx_lv ad o ls ↔ ∃ (k : Nat) (v : Value), ls[k]? = some (some v) ∧ q = (o + k, qx_rv ad v) := by
  intro ls
  induction ls with
  | nil => intro o q; simp [qx_lv]
  | cons a r ih =>
    intro o q
    cases a with
    | none =>
      rw [qx_lv, ih]
      constructor
      · rintro ⟨k, v, h1, h2⟩
        exact ⟨k + 1, v, by simpa using h1, by rw [h2]; congr 1; omega⟩
      · rintro ⟨k, v, h1, h2⟩
        cases k with
        | zero => simp at h1
        | succ k => exact ⟨k, v, by simpa using h1, by rw [h2]; congr 1; omega⟩
    | some w =>
      rw [qx_lv, List.mem_cons, ih]
      constructor
      · rintro (h | ⟨k, v, h1, h2⟩)
        · exact ⟨0, w, by simp, by rw [h]; rfl⟩
        · exact ⟨k + 1, v, by simpa using h1, by rw [h2]; congr 1; omega⟩
      · rintro ⟨k, v, h1, h2⟩
        cases k with
        | zero =>
          left
          have h3 : w = v := by simpa using h1
          rw [h2, h3]
          rfl
        | succ k => exact Or.inr ⟨k, v, by simpa using h1, by rw [h2]; congr 1; omega⟩
theorem qx_lv_get {ad : Nat → Nat} {lsA : Array Slot} {n : Nat} {ls : qxL} {i : Nat} {v : Value} (h : lv_has lsA n (qx_lv ad 0 ls)) (hi : ls[i]? = some (some v)) : lsA[i]? = some (.val (qx_rv ad v)) := by
  have h1 := h.2.2 (i, qx_rv ad v) ((qx_lv_mem ls 0 _).mpr ⟨i, v, hi, by simp⟩)
  exact h1
theorem qx_has_of {lsA : Array Slot} {n : Nat} {l l' : List (Nat × Value)} (h : lv_has lsA n l) (hs : ∀ q ∈ l', q ∈ l) : lv_has lsA n l' := ⟨h.1, h.2.1, fun q hq => h.2.2 q (hs q hq)⟩
theorem qx_cat {ad : Nat → Nat} (v : Value) : (qx_rv ad v).category = v.category := by cases v <;> rfl
/-- a store of one word -/
theorem qx_lv_set {ad : Nat → Nat} {lsA : Array Slot} {n : Nat} {ls : qxL} {i : Nat} {v : Value} (hc : qx_c1 ls i = true) (hl : i < ls.length)
    (h : lv_has lsA n ((i, qx_rv ad v) :: (qx_lv ad 0 ls).filter (fun q => !(q.1 == i) && !(q.1 + 1 == i && q.2.category == 2)))) : lv_has lsA n (qx_lv ad 0 (ls.set i (some v))) := by
  refine qx_has_of h fun q hq => ?_
  obtain ⟨k, w, h1, h2⟩ := (qx_lv_mem _ 0 q).mp hq
  rw [List.getElem?_set] at h1
  by_cases hk : i = k
  · subst hk
    rw [if_pos rfl, if_pos hl] at h1
    have h3 : v = w := by simpa using h1
    rw [h2, h3]
    simp
  · rw [if_neg hk] at h1
    refine List.mem_cons_of_mem _ (List.mem_filter.mpr ⟨(qx_lv_mem ls 0 q).mpr ⟨k, w, h1, h2⟩, ?_⟩)
    rw [h2]
    simp only [Nat.zero_add, qx_cat]
    have h4 : (k == i) = false := by simpa using fun e => hk e.symm
    rw [h4]
    by_cases h5 : k + 1 = i
    · subst h5
      unfold qx_c1 at hc
      simp only [h1] at hc
      have h6 : w.category = 1 := by simpa using hc
      simp [h6]
    · simp [h5]
theorem qx_lv_set2 {ad : Nat → Nat} {lsA : Array Slot} {n : Nat} {ls : qxL} {i : Nat} {v : Value} (hc : qx_c1 ls i = true) (hl : i + 1 < ls.length)
    (h : lv_has lsA n ((i, qx_rv ad v) :: (qx_lv ad 0 ls).filter (fun q => !(q.1 == i) && (!(q.1 == i + 1) && !(q.1 + 1 == i && q.2.category == 2))))) : lv_has lsA n (qx_lv ad 0 ((ls.set i (some v)).set (i + 1) none)) := by
  refine qx_has_of h fun q hq => ?_
  obtain ⟨k, w, h1, h2⟩ := (qx_lv_mem _ 0 q).mp hq
  rw [List.getElem?_set] at h1
  by_cases hk2 : i + 1 = k
  · subst hk2
    rw [if_pos rfl] at h1
    split at h1 <;> simp at h1
  rw [if_neg hk2, List.getElem?_set] at h1
  by_cases hk : i = k
  · subst hk
    rw [if_pos rfl, if_pos (by omega)] at h1
    have h3 : v = w := by simpa using h1
    rw [h2, h3]
    simp
  · rw [if_neg hk] at h1
    refine List.mem_cons_of_mem _ (List.mem_filter.mpr ⟨(qx_lv_mem ls 0 q).mpr ⟨k, w, h1, h2⟩, ?_⟩)
    rw [h2]
    simp only [Nat.zero_add, qx_cat]
    have h4 : (k == i) = false := by simpa using fun e => hk e.symm
    have h4' : (k == i + 1) = false := by simpa using fun e => hk2 e.symm
    rw [h4, h4']
    by_cases h5 : k + 1 = i
    · subst h5
      unfold qx_c1 at hc
      simp only [h1] at hc
      have h6 : w.category = 1 := by simpa using hc
      simp [h6]
    · simp [h5]
