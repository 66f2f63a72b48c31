/-! undo, undoable, and the parser's numbers. -/
section QL
variable {L : Nat} {xs : Nat → Int32} {d x : Nat} {M : qxM}
theorem qPair_num {Y Z : Nat} {v : Int32} (hR : qREL M) (ke : Nat → String) (h1 : Rs L xs (d + 40) Y 0 [some (.ref 10)] [] M 0 = some (.inl (some (.int v)), M, 0)) (h2 : ∀ o, Rs L xs (d + 40) Z 0 [some (.ref 400)] [] (M.1, o) 0 = some (.inl (some (.int v)), qx_up (M.1, o) 400 0 (nI 0), 0)) :
    qPair L xs (d + 40) Y [some (.ref 10)] Z [some (.ref 400)] ke M :=
  qPair_of hR 0 v (by decide) (by rw [if_pos rfl]; exact h1) (fun o => ⟨v, h2 o, fun _ => rfl⟩)
theorem j156 (hR : qREL M) (ke : Nat → String) : qPair L xs (d + 40) 156 [some (.ref 10)] 331 [some (.ref 400)] ke M := by
  obtain ⟨c, E, hc8, hE8, hE, hc, hc7⟩ := qREL_ring hR
  refine qPair_num (v := nI c) hR ke ?_ (fun o => ?_)
  · simp only [s156_0, s156_1, s156_4, qx_m10, hc, List.length_cons, List.length_nil, Nat.zero_le, Nat.reduceAdd, Nat.reduceLeDiff, Option.bind_some, qx_kn_v, qx_kn_n, Nat.add_zero, Bool.false_eq_true, ↓reduceIte]
  · have h2 : (qx_up (M.1, o) 400 0 (nI 0)).1 400 7 = nI c := by rw [qx_up_at, if_neg (by omega)]; exact hc7
    simp only [s331_0, s331_1, s331_2, s331_5, s331_6, s331_9, qx_m400.1, h2, List.length_cons, List.length_nil, Nat.zero_le, Nat.reduceAdd, Nat.reduceLeDiff, Option.bind_some, qx_kn_v, qx_kn_n, Nat.add_zero, Bool.false_eq_true, ↓reduceIte]
theorem j94 (hR : qREL M) (ke : Nat → String) : qPair L xs (d + 40) 94 [some (.ref 10)] 187 [some (.ref 400)] ke M := by
  obtain ⟨n, n1, n2, n3, n4, n5, n6⟩ := hR.2.2.2.2.1
  refine qPair_num (v := M.1 20 3) hR ke ?_ (fun o => ?_)
  · simp only [s94_0, s94_1, s94_4, s94_7, qx_m10, List.length_cons, List.length_nil, Nat.zero_le, Nat.reduceAdd, Nat.reduceLeDiff, Option.bind_some, qx_kn_v, qx_kn_n, Nat.add_zero, Bool.false_eq_true, ↓reduceIte]
  · have h2 : (qx_up (M.1, o) 400 0 (nI 0)).1 400 10 = M.1 20 3 := by rw [qx_up_at, if_neg (by omega), n5]
    simp only [s187_0, s187_1, s187_2, s187_5, s187_6, s187_9, qx_m400.1, h2, List.length_cons, List.length_nil, Nat.zero_le, Nat.reduceAdd, Nat.reduceLeDiff, Option.bind_some, qx_kn_v, qx_kn_n, Nat.add_zero, Bool.false_eq_true, ↓reduceIte]
theorem j95 (hR : qREL M) (ke : Nat → String) : qPair L xs (d + 40) 95 [some (.ref 10)] 188 [some (.ref 400)] ke M := by
  obtain ⟨n, n1, n2, n3, n4, n5, n6⟩ := hR.2.2.2.2.1
  refine qPair_num (v := M.1 20 4) hR ke ?_ (fun o => ?_)
  · simp only [s95_0, s95_1, s95_4, s95_7, qx_m10, List.length_cons, List.length_nil, Nat.zero_le, Nat.reduceAdd, Nat.reduceLeDiff, Option.bind_some, qx_kn_v, qx_kn_n, Nat.add_zero, Bool.false_eq_true, ↓reduceIte]
  · have h2 : (qx_up (M.1, o) 400 0 (nI 0)).1 400 11 = M.1 20 4 := by rw [qx_up_at, if_neg (by omega), n6]
    simp only [s188_0, s188_1, s188_2, s188_5, s188_6, s188_9, qx_m400.1, h2, List.length_cons, List.length_nil, Nat.zero_le, Nat.reduceAdd, Nat.reduceLeDiff, Option.bind_some, qx_kn_v, qx_kn_n, Nat.add_zero, Bool.false_eq_true, ↓reduceIte]
theorem j96 (hR : qREL M) (ke : Nat → String) : qPair L xs (d + 40) 96 [some (.ref 10)] 189 [some (.ref 400)] ke M := by
  obtain ⟨n, n1, n2, n3, n4, n5, n6⟩ := hR.2.2.2.2.1
  refine qPair_num (v := nI n) hR ke ?_ (fun o => ?_)
  · simp only [s96_0, s96_1, s96_4, s96_7, qx_m10, n2, List.length_cons, List.length_nil, Nat.zero_le, Nat.reduceAdd, Nat.reduceLeDiff, Option.bind_some, qx_kn_v, qx_kn_n, Nat.add_zero, Bool.false_eq_true, ↓reduceIte]
  · have h2 : (qx_up (M.1, o) 400 0 (nI 0)).1 400 9 = nI n := by rw [qx_up_at, if_neg (by omega)]; exact n3
    simp only [s189_0, s189_1, s189_2, s189_5, s189_6, s189_9, qx_m400.1, h2, List.length_cons, List.length_nil, Nat.zero_le, Nat.reduceAdd, Nat.reduceLeDiff, Option.bind_some, qx_kn_v, qx_kn_n, Nat.add_zero, Bool.false_eq_true, ↓reduceIte]
end QL
