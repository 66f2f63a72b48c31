/-! Search: who becomes outer; one that leaves. -/
section QL
variable {L : Nat} {xs : Nat → Int32} {d x : Nat} {M : qxM}
theorem m66 {t p o i e : Nat} (hZ : qx_Z t) (hp : p < 14) (ho : M.1 t 4 = nI o) (hi : M.1 t 5 = nI i) (he : M.1 t 7 = nI e) (he2 : e < 14) : Rs L xs (d + 1) 66 0 [some (.ref t), some (.int (nI p))] [] M x = some (.inl none, qx_up (qx_up (qx_up (qx_up M t 4 (nI (o ||| 2 ^ p))) t 5 (nI (qb_dif i (2 ^ p)))) (t + 1) e (nI p)) t 7 (nI (e + 1)), x) := by
  have hZ2 := hZ
  obtain ⟨k1, k2, k3⟩ := hZ
  obtain ⟨l1, l2⟩ := k2 1 (by decide) (by decide)
  have e1 : ∀ w, (qx_up M t 4 w).1 t 5 = nI i := by
    intro w
    unfold qx_up
    dsimp only
    rw [if_neg (by omega), hi]
  have e2 : ∀ w v, (qx_up (qx_up M t 4 w) t 5 v).1 t 7 = nI e := by
    intro w v
    unfold qx_up
    dsimp only
    rw [if_neg (by omega), if_neg (by omega), he]
  have e3 : ∀ w v u, (qx_up (qx_up (qx_up M t 4 w) t 5 v) (t + 1) e u).1 t 7 = nI e := by
    intro w v u
    rw [qx_up_ne _ _ _ (by omega), e2]
  simp only [s66_0, s66_1r, s66_1i, s66_2, s66_5, s66_6, s66_9, s66_10, s66_13, s66_14r, s66_14i, s66_15, s66_18, s66_19, s66_22, s66_23, s66_24, s66_25, s66_28, s66_29, s66_32, s66_33, s66_36, s66_37, s66_40, s66_41r, s66_41i, s66_42, s66_45, s66_46, s66_47, s66_50, k1, ho, e1, e2, e3, m169 (show p < 31 by omega), qb_or, qb_andn, m174 l1 l2 he2 (by decide), nI_add, List.length_cons, List.length_nil, Nat.zero_le, Nat.reduceAdd, Nat.reduceLeDiff, Option.bind_some, qx_kn_v, qx_kn_n, Nat.add_zero]
end QL
