/-! What the law's start has: classes, rows' classes, texts, statics. -/
def qx_fl : List Jvm.Cond := flatC (Jvm.Cond.and given_1 narrow_1)
def qx_tt (t : String × Nat × String) : Term := .string t.1 t.2.1
def qx_tvv (t : String × Nat × String) : Term := .field (qx_tt t) RJ0 "value" "[B"
def qx_pp : List Nat := [44, 79, 88, 96, 106, 114, 122, 147, 169, 185, 202, 223, 239, 263, 284, 315, 336, 360, 394, 424, 440, 466, 476, 485, 496, 505]
def qx_at (i : Nat) (c : Jvm.Cond) : Bool := decide (qx_fl[i]? = some c)
theorem qx_at_in {i : Nat} {c : Jvm.Cond} (h : qx_at i c = true) : c ∈ qx_fl := List.mem_of_getElem? (of_decide_eq_true h)
theorem qx_tx_ex : ∀ k, k < 26 → (match qx_tx[k]? with
    | some t => decide (Cond.stringRef t.1 t.2.1 t.2.2 ∈ lw_tbl) && qx_at (qx_pp.getD k 0) (Cond.exactly (qx_tt t) RJ0)
    | none => false) = true := by decide +kernel
def qx_tb (k : Nat) : Bool := match qx_tx[k]? with
  | some t => qx_at (qx_pp.getD k 0 + 1) (Cond.eq (.field (qx_tt t) RJ0 "coder" "B") (.int 0)) && (qx_at (qx_pp.getD k 0 + 2) (Cond.arrayOf (qx_tvv t) .byte) && (qx_at (qx_pp.getD k 0 + 3) (Cond.eq (.length (qx_tvv t)) (.int (nI (qx_txc k).length))) &&
      (List.range (qx_txc k).length).all (fun j => qx_at (qx_pp.getD k 0 + 4 + j) (Cond.eq (.elem (qx_tvv t) (.int (nI j))) (.int (nI ((qx_txc k).getD j 0)))))))
  | none => false
theorem qx_tb_ok : ([1, 2, 3, 4, 5, 21, 22, 23, 24, 25].all qx_tb) = true := by decide +kernel
theorem qx_nc_at : qx_ncs = [(qx_ex 0, qx_ex 1), (qx_ex 0, qx_ex 2), (qx_ex 1, qx_ex 0), (qx_ex 1, qx_ex 2), (qx_ex 2, qx_ex 0), (qx_ex 2, qx_ex 1)] := rfl
theorem qx_nc_premises : qx_at 32 (.not (.castable (qx_ex 0) (qx_ex 1))) = true ∧ qx_at 21 (.not (.castable (qx_ex 0) (qx_ex 2))) = true ∧ qx_at 43 (.not (.castable (qx_ex 1) (qx_ex 0))) = true ∧ qx_at 20 (.not (.castable (qx_ex 1) (qx_ex 2))) = true ∧ qx_at 42 (.not (.castable (qx_ex 2) (qx_ex 0))) = true ∧ qx_at 31 (.not (.castable (qx_ex 2) (qx_ex 1))) = true := by decide +kernel
theorem qx_st_premises : qx_at 4 (.isRef (.static Bundle.tN "UNASSIGNED_STACK" Bundle.steD)) = true ∧ qx_at 5 (.isRef (.static Bundle.tN "SUPPRESSED_SENTINEL" Bundle.listD)) = true ∧ qx_at 6 (.eq (.static RJ0 "COMPACT_STRINGS" "Z") (.int 1)) = true ∧ qx_at 7 (.isRef (.static RJ3 "SIOOBE_FORMATTER" "Ljava/util/function/BiFunction;")) = true ∧
    Cond.laysStatic Bundle.tN "UNASSIGNED_STACK" Bundle.steD ∈ lw_tbl ∧ Cond.laysStatic Bundle.tN "SUPPRESSED_SENTINEL" Bundle.listD ∈ lw_tbl ∧ Cond.laysStatic RJ0 "COMPACT_STRINGS" "Z" ∈ lw_tbl ∧ Cond.laysStatic RJ3 "SIOOBE_FORMATTER" "Ljava/util/function/BiFunction;" ∈ lw_tbl ∧ Cond.initialized Bundle.tN ∈ lw_tbl ∧ Cond.initialized RJ0 ∈ lw_tbl ∧ Cond.initialized RJ3 ∈ lw_tbl ∧
    Cond.arrayClass .int ∈ lw_tbl ∧ Cond.arrayClass .byte ∈ lw_tbl ∧ Cond.arrayClass .boolean ∈ lw_tbl ∧ Cond.arrayClass .long ∈ lw_tbl ∧ Cond.arrayClass .double ∈ lw_tbl ∧ Cond.arrayOver (.object RX4) ∈ lw_tbl := by decide +kernel
theorem qx_inst : ∀ ci, ci < 9 → (match vwCl[ci]? with
    | some c => decide (Cond.instantiable c.1 c.2.2 ∈ lw_tbl)
    | none => false) = true := by decide +kernel
section QXG
variable {s : State} {b : Nat}
theorem qx_rowcls {ty : FieldType} {a : Array Value} (h : (Cond.arrayClass ty).before a s = true) (hp : ∀ C, ty ≠ .object C) : ∃ cA : ClassId, ArrOfT s cA ty ∧ va_RA s cA ty := by
  obtain ⟨cA, kA, comp, h1, h2, h3⟩ := Cond.arrayClass_spec h
  refine ⟨cA, ?_, ?_⟩
  · intro n z
    refine ⟨?_, kA, h2, comp, h3⟩
    first | exact (fun k h => by cases h) | simp
  · cases ty with
    | object C => exact absurd rfl (hp C)
    | _ => exact h1
theorem qx_begin {a : Array Value} (hts : ∀ w ∈ lw_tbl, w.before a s = true) (hgv : (Jvm.Cond.and given_1 narrow_1).before a s = true) :
    ∃ (D : va_G) (cy : Nat → ClassId) (tad : Nat → Nat), va_K D vwCl (qx_tys cy) s ∧ (∀ w ∈ lw_tbl, qx_nk w = true → va_Nw w s) ∧ va_AO RX4 s ∧ (∀ k t, qx_tx[k]? = some t → vk_R t.1 t.2.1 t.2.2 (tad k) s) ∧ (∀ q ∈ qx_ncs, va_Nc q.1 q.2 s) ∧
      vx_Zq Bundle.tN "UNASSIGNED_STACK" Bundle.steD (fun q => s.heap.size ≤ q) s s.heap ∧ vx_Zq Bundle.tN "SUPPRESSED_SENTINEL" Bundle.listD (fun q => s.heap.size ≤ q) s s.heap ∧
      (∀ k t, qx_tx[k]? = some t → (1 ≤ k ∧ k ≤ 5 ∨ 21 ≤ k) → ∃ a : Nat, va_O RJ0 (tad k) (fun q => s.heap.size ≤ q) s s.heap ∧ va_OF RJ0 "coder" "B" (.int 0) (tad k) (fun q => s.heap.size ≤ q) s s.heap ∧ va_OF RJ0 "value" "[B" (.ref a) (tad k) (fun q => s.heap.size ≤ q) s s.heap ∧ va_T .byte a (qx_txc k).length (fun j => .int (nI ((qx_txc k).getD j 0))) (fun q => s.heap.size ≤ q) s s.heap) ∧
      (∃ v : Value, va_Z RJ0 "COMPACT_STRINGS" "Z" (.int 1) (fun q => s.heap.size ≤ q) s s.heap ∧ va_Z RJ3 "SIOOBE_FORMATTER" "Ljava/util/function/BiFunction;" v (fun q => s.heap.size ≤ q) s s.heap ∧ (v = .null ∨ ∃ a, v = .ref a)) := by
  have hA : ∀ q : Nat, q < s.heap.size → ¬ s.heap.size ≤ q := fun q h => Nat.not_le.mpr h
  have hfl : ∀ c ∈ qx_fl, c.before a s = true := flat_of_before _ hgv
  obtain ⟨s1, s2, s3, s4, l1, l2, l3, l4, i1, i2, i3, r1, r2, r3, r4, r5, r6⟩ := qx_st_premises
  -- the classes
  have hD : ∃ g : Nat → ClassId × (Nat → Nat), ∀ c q, vwCl[c]? = some q → u_Kn s q.1 q.2.1 q.2.2 (g c).1 (g c).2 := by
    have h0 : ∀ c : Nat, ∃ x : ClassId × (Nat → Nat), ∀ q, vwCl[c]? = some q → u_Kn s q.1 q.2.1 q.2.2 x.1 x.2 := by
      intro c
      cases hc : vwCl[c]? with
      | none => exact ⟨(0, fun _ => 0), fun q h => by cases h⟩
      | some q =>
        have h1 := qx_inst c (List.getElem?_eq_some_iff.mp hc).1
        rw [hc] at h1
        obtain ⟨cC, iS, h2⟩ := u_known (ws := lw_tbl) hts (fun w hw => (List.mem_filter.mp (qx_lays q (List.mem_of_getElem? hc) w hw)).1) (hts _ (of_decide_eq_true h1))
        exact ⟨(cC, iS), fun q' h => by cases h; exact h2⟩
    obtain ⟨g, hg⟩ := Classical.axiomOfChoice h0
    exact ⟨g, hg⟩
  obtain ⟨g, hg⟩ := hD
  obtain ⟨c0, f0, g0⟩ := qx_rowcls (hts _ r1) (fun C h => by cases h)
  obtain ⟨c1, f1, g1⟩ := qx_rowcls (hts _ r2) (fun C h => by cases h)
  obtain ⟨c2, f2, g2⟩ := qx_rowcls (hts _ r3) (fun C h => by cases h)
  obtain ⟨c4, f4, g4⟩ := qx_rowcls (hts _ r4) (fun C h => by cases h)
  obtain ⟨c5, f5, g5⟩ := qx_rowcls (hts _ r5) (fun C h => by cases h)
  obtain ⟨comp, c3, k3, q1, -, q3, q4, q5⟩ := Cond.arrayOver_spec (hts _ r6)
  have f3 : ArrOfT s c3 (.object RX4) := fun n z => ⟨(fun k h => by cases h), k3, q3, comp, q4⟩
  have g3 : va_RA s c3 (.object RX4) := ⟨k3, comp, q3, q4, q1, q5⟩
  -- the texts
  have hT : ∃ tad : Nat → Nat × Nat, ∀ k t, qx_tx[k]? = some t → vk_R t.1 t.2.1 t.2.2 (tad k).1 s ∧ ((1 ≤ k ∧ k ≤ 5 ∨ 21 ≤ k) → va_O RJ0 (tad k).1 (fun q => s.heap.size ≤ q) s s.heap ∧ va_OF RJ0 "coder" "B" (.int 0) (tad k).1 (fun q => s.heap.size ≤ q) s s.heap ∧ va_OF RJ0 "value" "[B" (.ref (tad k).2) (tad k).1 (fun q => s.heap.size ≤ q) s s.heap ∧ va_T .byte (tad k).2 (qx_txc k).length (fun j => .int (nI ((qx_txc k).getD j 0))) (fun q => s.heap.size ≤ q) s s.heap) := by
    have h0 : ∀ k : Nat, ∃ x : Nat × Nat, ∀ t, qx_tx[k]? = some t → vk_R t.1 t.2.1 t.2.2 x.1 s ∧ ((1 ≤ k ∧ k ≤ 5 ∨ 21 ≤ k) → va_O RJ0 x.1 (fun q => s.heap.size ≤ q) s s.heap ∧ va_OF RJ0 "coder" "B" (.int 0) x.1 (fun q => s.heap.size ≤ q) s s.heap ∧ va_OF RJ0 "value" "[B" (.ref x.2) x.1 (fun q => s.heap.size ≤ q) s s.heap ∧ va_T .byte x.2 (qx_txc k).length (fun j => .int (nI ((qx_txc k).getD j 0))) (fun q => s.heap.size ≤ q) s s.heap) := by
      intro k
      cases hk : qx_tx[k]? with
      | none => exact ⟨(0, 0), fun t h => by cases h⟩
      | some t =>
        have hk26 : k < 26 := (List.getElem?_eq_some_iff.mp hk).1
        have h1 := qx_tx_ex k hk26
        rw [hk] at h1
        simp only [Bool.and_eq_true, decide_eq_true_eq] at h1
        obtain ⟨h2, h3⟩ := h1
        have hex := hfl _ (qx_at_in h3)
        obtain ⟨a1, -, -, -, e1, -⟩ := Cond.exactly_spec (args := a) (first := s) (o := none) (s := s) (idx := []) hex
        have hR : vk_R t.1 t.2.1 t.2.2 a1 s := vk_R.of (hts _ h2) (by
          have e2 : (Term.string t.1 t.2.1).eval a s none [] s = some (.ref a1) := e1
          exact e2)
        by_cases hc : 1 ≤ k ∧ k ≤ 5 ∨ 21 ≤ k
        · have hb : qx_tb k = true := List.all_eq_true.mp qx_tb_ok k (by
            simp only [List.mem_cons, List.not_mem_nil, or_false]
            omega)
          unfold qx_tb at hb
          rw [hk] at hb
          simp only [Bool.and_eq_true] at hb
          obtain ⟨b1, b2, b3, b4⟩ := hb
          obtain ⟨t1, t2, t3⟩ := va_Tof (f := fun j => .int (nI ((qx_txc k).getD j 0))) (A := fun q => s.heap.size ≤ q) (N := (qx_txc k).length) (Nat.lt_trans (qx_tx_all k hk26).2.1 (by decide)) (hfl _ (qx_at_in b2)) (va_eqt (hfl _ (qx_at_in b3))) (fun j hj => va_eqt (hfl _ (qx_at_in (List.all_eq_true.mp b4 j (List.mem_range.mpr hj))))) hA
          refine ⟨(a1, t1), fun t' h => ?_⟩
          cases h
          exact ⟨hR, fun _ => ⟨va_Oof hex e1 hA, vk_OFof e1 (va_eqt (hfl _ (qx_at_in b1))) hA, vk_OFof e1 t2 hA, t3⟩⟩
        · refine ⟨(a1, 0), fun t' h => ?_⟩
          cases h
          exact ⟨hR, fun h => absurd h hc⟩
    obtain ⟨x, hx⟩ := Classical.axiomOfChoice h0
    exact ⟨x, hx⟩
  obtain ⟨tad, htad⟩ := hT
  refine ⟨(fun c => (g c).1, fun c => (g c).2), (fun t => match t with
    | 0 => c0 | 1 => c1 | 2 => c2 | 3 => c3 | 4 => c4 | _ => c5), fun k => (tad k).1, ⟨hg, ?_⟩, ?_, va_AO.of (hts _ r6), fun k t h => (htad k t h).1, ?_, ?_, ?_, fun k t h h' => ⟨(tad k).2, (htad k t h).2 h'⟩, ?_⟩
  · intro k q hk
    match k, hk with
    | 0, h => cases h; exact ⟨f0, g0⟩
    | 1, h => cases h; exact ⟨f1, g1⟩
    | 2, h => cases h; exact ⟨f2, g2⟩
    | 3, h => cases h; exact ⟨f3, g3⟩
    | 4, h => cases h; exact ⟨f4, g4⟩
    | 5, h => cases h; exact ⟨f5, g5⟩
    | n + 6, h => simp [qx_tys] at h
  · intro w hw hk
    exact va_Nw.of (qx_nk_tab hk) (hts w hw)
  · intro q hq
    obtain ⟨n1, n2, n3, n4, n5, n6⟩ := qx_nc_premises
    rw [qx_nc_at] at hq
    simp only [List.mem_cons, List.not_mem_nil, or_false] at hq
    rcases hq with rfl | rfl | rfl | rfl | rfl | rfl
    · exact va_Nc.of (hfl _ (qx_at_in n1))
    · exact va_Nc.of (hfl _ (qx_at_in n2))
    · exact va_Nc.of (hfl _ (qx_at_in n3))
    · exact va_Nc.of (hfl _ (qx_at_in n4))
    · exact va_Nc.of (hfl _ (qx_at_in n5))
    · exact va_Nc.of (hfl _ (qx_at_in n6))
  · exact vx_Zqof (hts _ l1) (hts _ i1) (hfl _ (qx_at_in s1)) hA
  · exact vx_Zqof (hts _ l2) (hts _ i1) (hfl _ (qx_at_in s2)) hA
  · have h1 := va_Zof (hts _ l3) (hts _ i2) (va_eqt (hfl _ (qx_at_in s3))) hA
    rcases va_Zqof (hts _ l4) (hts _ i3) (hfl _ (qx_at_in s4)) hA with h2 | ⟨t, h2⟩
    · exact ⟨.null, h1, h2, Or.inl rfl⟩
    · exact ⟨.ref t, h1, h2, Or.inr ⟨t, rfl⟩⟩
end QXG
