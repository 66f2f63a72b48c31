/-! The class looks at a pupil and takes it. -/
theorem z01 : (nI 0 = nI 1) = False := by decide
theorem z02 : (nI 0 = nI 2) = False := by decide
theorem z03 : (nI 0 = nI 3) = False := by decide
theorem z12 : (nI 1 = nI 2) = False := by decide
theorem z13 : (nI 1 = nI 3) = False := by decide
theorem z21 : (nI 2 = nI 1) = False := by decide
theorem z23 : (nI 2 = nI 3) = False := by decide
theorem z31 : (nI 3 = nI 1) = False := by decide
theorem z32 : (nI 3 = nI 2) = False := by decide
theorem z10 : (nI 1 = 0) = False := by decide
theorem z20 : (nI 2 = 0) = False := by decide
theorem z30 : (nI 3 = 0) = False := by decide
theorem z00 : (nI 0 ≤ 0) = True := by decide
theorem zi0 {i : Nat} (h : 0 < i) (hi : i < 2 ^ 31) : (nI i = 0) = False := (qi_eq (a := i) (b := 0) hi (by decide)).trans (eq_false (by omega))
theorem zil {i : Nat} (h : 0 < i) (hi : i < 2 ^ 31) : (nI i ≤ 0) = False := eq_false (nI_nle h hi)
theorem cTk_fr {M M1 : qxM} {B : Nat → Int32} {N s : Nat} (h : cTk M B N s) (h1 : ∀ j, j < 10 → M1.1 20 j = M.1 20 j) (h2 : qf (fun a => a = 20 ∨ 22 ≤ a ∧ a ≤ 24) M M1) : cTk M1 B N s := by
  obtain ⟨⟨a1, a2, a3⟩, a4, a5, a6⟩ := h
  exact ⟨⟨by rw [h1 5 (by decide), a1], by rw [h1 6 (by decide), a2], fun i hi => by rw [h2.1 21 (by omega), a3 i hi]⟩, by rw [h1 7 (by decide), a4], by rw [h1 8 (by decide), a5], fun w => by rw [h1 9 (by decide), a6 w]⟩
section QL
variable {L : Nat} {xs : Nat → Int32} {d x i p a n r q : Nat} {f mt : Nat → Nat} {M : qxM}
theorem m47_22 (hm : qMt 22 M mt) (hp : p < 14) : decide (M.1 (22 + 2) p = -1) = !decide (mt p < 14) := by
  rw [hm p hp, show decide (qz (mt p) = -1) = decide (¬ mt p < 14) from by congr 1; exact qz_n1 _]
  by_cases z : mt p < 14 <;> simp [z]
theorem m25_0 : Rs L xs (d) 25 0 [some (.ref (20)), some (.int (nI 0)), some (.int (nI i)), none, none] [] (M) x = some (.inl (some (.int (nI 0))), M, x) := by
  simp only [s25_0, s25_1, s25_2, s25_5, s25_6, s25_7, s25_10, s25_11, s25_14, s25_15, s25_18, s25_19, s25_22, s25_25, s25_26, s25_29, s25_30i, s25_30r, s25_30n, s25_31, s25_32, s25_33, s25_36, s25_37, s25_40, s25_41, s25_44, s25_47, s25_50, s25_51, s25_54, s25_55i, s25_55r, s25_55n, s25_57, s25_58, s25_61, s25_63, s25_66, s25_67, s25_68, s25_69, s25_70, s25_73, s25_74, s25_75, s25_76, s25_79, s25_80, s25_83, s25_86, s25_89, s25_90, s25_91, s25_92, s25_95, s25_96, s25_99, s25_100, s25_103, s25_106, s25_107, s25_110, s25_113, s25_116, s25_117, s25_120, s25_121, z01, z02, z03, qi_z0, List.length_cons, List.length_nil, Nat.zero_le, Nat.reduceAdd, Nat.reduceLeDiff, Option.bind_some, qx_kn_v, qx_kn_n, Nat.add_zero, Bool.false_eq_true, ↓reduceIte]
theorem m25_1a : Rs L xs (d) 25 0 [some (.ref (20)), some (.int (nI 1)), some (.int (nI 0)), none, none] [] (M) x = some (.inl (some (.int (nI 0))), M, x) := by
  simp only [s25_0, s25_1, s25_2, s25_5, s25_6, s25_7, s25_10, s25_11, s25_14, s25_15, s25_18, s25_19, s25_22, s25_25, s25_26, s25_29, s25_30i, s25_30r, s25_30n, s25_31, s25_32, s25_33, s25_36, s25_37, s25_40, s25_41, s25_44, s25_47, s25_50, s25_51, s25_54, s25_55i, s25_55r, s25_55n, s25_57, s25_58, s25_61, s25_63, s25_66, s25_67, s25_68, s25_69, s25_70, s25_73, s25_74, s25_75, s25_76, s25_79, s25_80, s25_83, s25_86, s25_89, s25_90, s25_91, s25_92, s25_95, s25_96, s25_99, s25_100, s25_103, s25_106, s25_107, s25_110, s25_113, s25_116, s25_117, s25_120, s25_121, z12, z13, z00, qi_z0, List.length_cons, List.length_nil, Nat.zero_le, Nat.reduceAdd, Nat.reduceLeDiff, Option.bind_some, qx_kn_v, qx_kn_n, Nat.add_zero, Bool.false_eq_true, ↓reduceIte]
theorem m25_1b (hi : 0 < i) (hi2 : i < 2 ^ 31) (h9 : M.1 20 9 = nI p) (h10 : M.1 20 10 = nI a) (hp : p < 14) (ha : a < 14) (h : p ≠ a) : Rs L xs (d) 25 0 [some (.ref (20)), some (.int (nI 1)), some (.int (nI i)), none, none] [] (M) x = some (.inl (some (.int (nI 0))), M, x) := by
  have t : (nI p = nI a) = False := by rw [qi_eq (by omega) (by omega)]; exact eq_false h
  simp only [s25_0, s25_1, s25_2, s25_5, s25_6, s25_7, s25_10, s25_11, s25_14, s25_15, s25_18, s25_19, s25_22, s25_25, s25_26, s25_29, s25_30i, s25_30r, s25_30n, s25_31, s25_32, s25_33, s25_36, s25_37, s25_40, s25_41, s25_44, s25_47, s25_50, s25_51, s25_54, s25_55i, s25_55r, s25_55n, s25_57, s25_58, s25_61, s25_63, s25_66, s25_67, s25_68, s25_69, s25_70, s25_73, s25_74, s25_75, s25_76, s25_79, s25_80, s25_83, s25_86, s25_89, s25_90, s25_91, s25_92, s25_95, s25_96, s25_99, s25_100, s25_103, s25_106, s25_107, s25_110, s25_113, s25_116, s25_117, s25_120, s25_121, qx_m20.1, z12, z13, zil hi hi2, h9, h10, t, qi_z0, List.length_cons, List.length_nil, Nat.zero_le, Nat.reduceAdd, Nat.reduceLeDiff, Option.bind_some, qx_kn_v, qx_kn_n, Nat.add_zero, Bool.false_eq_true, ↓reduceIte]
theorem m25_1c (hi : 0 < i) (hi2 : i < 2 ^ 31) (h9 : M.1 20 9 = nI p) (h10 : M.1 20 10 = nI p) : Rs L xs (d) 25 0 [some (.ref (20)), some (.int (nI 1)), some (.int (nI i)), none, none] [] (M) x = some (.inl (some (.int (nI 3))), M, x) := by
  simp only [s25_0, s25_1, s25_2, s25_5, s25_6, s25_7, s25_10, s25_11, s25_14, s25_15, s25_18, s25_19, s25_22, s25_25, s25_26, s25_29, s25_30i, s25_30r, s25_30n, s25_31, s25_32, s25_33, s25_36, s25_37, s25_40, s25_41, s25_44, s25_47, s25_50, s25_51, s25_54, s25_55i, s25_55r, s25_55n, s25_57, s25_58, s25_61, s25_63, s25_66, s25_67, s25_68, s25_69, s25_70, s25_73, s25_74, s25_75, s25_76, s25_79, s25_80, s25_83, s25_86, s25_89, s25_90, s25_91, s25_92, s25_95, s25_96, s25_99, s25_100, s25_103, s25_106, s25_107, s25_110, s25_113, s25_116, s25_117, s25_120, s25_121, qx_m20.1, z12, z13, z10, zil hi hi2, h9, h10, List.length_cons, List.length_nil, Nat.zero_le, Nat.reduceAdd, Nat.reduceLeDiff, Option.bind_some, qx_kn_v, qx_kn_n, Nat.add_zero, Bool.false_eq_true, ↓reduceIte]
theorem m25_2 {S : Nat} (h9 : M.1 20 9 = nI p) (h12 : M.1 20 12 = nI S) (hS : S < 2 ^ 31) (hp : p < 14) : Rs L xs (d + 1) 25 0 [some (.ref (20)), some (.int (nI 2)), some (.int (nI i)), none, none] [] (M) x = some (.inl (some (.int ((if S.testBit p = true then nI 3 else nI 0)))), M, x) := by
  have h170 := m170 (L := L) (xs := xs) (d := d) (x := 0) (M := M) hS (show p < 31 by omega)
  cases z : S.testBit p
  · rw [z] at h170
    simp only [s25_0, s25_1, s25_2, s25_5, s25_6, s25_7, s25_10, s25_11, s25_14, s25_15, s25_18, s25_19, s25_22, s25_25, s25_26, s25_29, s25_30i, s25_30r, s25_30n, s25_31, s25_32, s25_33, s25_36, s25_37, s25_40, s25_41, s25_44, s25_47, s25_50, s25_51, s25_54, s25_55i, s25_55r, s25_55n, s25_57, s25_58, s25_61, s25_63, s25_66, s25_67, s25_68, s25_69, s25_70, s25_73, s25_74, s25_75, s25_76, s25_79, s25_80, s25_83, s25_86, s25_89, s25_90, s25_91, s25_92, s25_95, s25_96, s25_99, s25_100, s25_103, s25_106, s25_107, s25_110, s25_113, s25_116, s25_117, s25_120, s25_121, qx_m20.1, z21, z23, h9, h12, h170, qbf, qi_z0, List.length_cons, List.length_nil, Nat.zero_le, Nat.reduceAdd, Nat.reduceLeDiff, Option.bind_some, qx_kn_v, qx_kn_n, Nat.add_zero, Bool.false_eq_true, ↓reduceIte]
  · rw [z] at h170
    simp only [s25_0, s25_1, s25_2, s25_5, s25_6, s25_7, s25_10, s25_11, s25_14, s25_15, s25_18, s25_19, s25_22, s25_25, s25_26, s25_29, s25_30i, s25_30r, s25_30n, s25_31, s25_32, s25_33, s25_36, s25_37, s25_40, s25_41, s25_44, s25_47, s25_50, s25_51, s25_54, s25_55i, s25_55r, s25_55n, s25_57, s25_58, s25_61, s25_63, s25_66, s25_67, s25_68, s25_69, s25_70, s25_73, s25_74, s25_75, s25_76, s25_79, s25_80, s25_83, s25_86, s25_89, s25_90, s25_91, s25_92, s25_95, s25_96, s25_99, s25_100, s25_103, s25_106, s25_107, s25_110, s25_113, s25_116, s25_117, s25_120, s25_121, qx_m20.1, z21, z23, z10, h9, h12, h170, qbt, qi_z0, List.length_cons, List.length_nil, Nat.zero_le, Nat.reduceAdd, Nat.reduceLeDiff, Option.bind_some, qx_kn_v, qx_kn_n, Nat.add_zero, Bool.false_eq_true, ↓reduceIte]
theorem m25_3a (hm : qMt 22 M mt) (h9 : M.1 20 9 = nI p) (hp : p < 14) : Rs L xs (d + 3) 25 0 [some (.ref (20)), some (.int (nI 3)), some (.int (nI 0)), none, none] [] (M) x = some (.inl (some (.int ((if mt p < 14 then nI 4 else nI 0)))), M, x) := by
  have h47 := m47 (L := L) (xs := xs) (d := d + 1) (x := 0) (M := M) qx_P22 hp
  rw [m47_22 hm hp] at h47
  by_cases z : mt p < 14
  · rw [decide_eq_true z, Bool.not_true] at h47
    rw [if_pos z]
    simp only [s25_0, s25_1, s25_2, s25_5, s25_6, s25_7, s25_10, s25_11, s25_14, s25_15, s25_18, s25_19, s25_22, s25_25, s25_26, s25_29, s25_30i, s25_30r, s25_30n, s25_31, s25_32, s25_33, s25_36, s25_37, s25_40, s25_41, s25_44, s25_47, s25_50, s25_51, s25_54, s25_55i, s25_55r, s25_55n, s25_57, s25_58, s25_61, s25_63, s25_66, s25_67, s25_68, s25_69, s25_70, s25_73, s25_74, s25_75, s25_76, s25_79, s25_80, s25_83, s25_86, s25_89, s25_90, s25_91, s25_92, s25_95, s25_96, s25_99, s25_100, s25_103, s25_106, s25_107, s25_110, s25_113, s25_116, s25_117, s25_120, s25_121, qx_m20.1, qx_P22.1, z31, z32, z00, h9, h47, qbf, qi_z0, List.length_cons, List.length_nil, Nat.zero_le, Nat.reduceAdd, Nat.reduceLeDiff, Option.bind_some, qx_kn_v, qx_kn_n, Nat.add_zero, Bool.false_eq_true, ↓reduceIte]
  · rw [decide_eq_false z, Bool.not_false] at h47
    rw [if_neg z]
    simp only [s25_0, s25_1, s25_2, s25_5, s25_6, s25_7, s25_10, s25_11, s25_14, s25_15, s25_18, s25_19, s25_22, s25_25, s25_26, s25_29, s25_30i, s25_30r, s25_30n, s25_31, s25_32, s25_33, s25_36, s25_37, s25_40, s25_41, s25_44, s25_47, s25_50, s25_51, s25_54, s25_55i, s25_55r, s25_55n, s25_57, s25_58, s25_61, s25_63, s25_66, s25_67, s25_68, s25_69, s25_70, s25_73, s25_74, s25_75, s25_76, s25_79, s25_80, s25_83, s25_86, s25_89, s25_90, s25_91, s25_92, s25_95, s25_96, s25_99, s25_100, s25_103, s25_106, s25_107, s25_110, s25_113, s25_116, s25_117, s25_120, s25_121, qx_m20.1, qx_P22.1, z31, z32, z00, h9, h47, qbt, qi_z0, List.length_cons, List.length_nil, Nat.zero_le, Nat.reduceAdd, Nat.reduceLeDiff, Option.bind_some, qx_kn_v, qx_kn_n, Nat.add_zero, Bool.false_eq_true, ↓reduceIte]
theorem m25_3b (hi : 0 < i) (hi2 : i < 2 ^ 31) (hp0 : qp_ok n r q f mt) (hu : qPu 22 M n r q f mt) (h9 : M.1 20 9 = nI p) (h10 : M.1 20 10 = nI a) (hp : p < 14) (ha : a < 14) : Rs L xs (d + 3) 25 0 [some (.ref (20)), some (.int (nI 3)), some (.int (nI i)), none, none] [] (M) x = some (.inl (some (.int ((if p = a then nI 3 else if mt p < 14 then nI 4 else if (qp_al r q (f a) a).testBit p = true then nI 0 else nI 5)))), M, x) := by
  have h47 := m47 (L := L) (xs := xs) (d := d + 1) (x := 0) (M := M) qx_P22 hp
  rw [m47_22 hu.2.2.2.2 hp] at h47
  have h42 := m42 (L := L) (xs := xs) (d := d) (x := 0) (M := M) qx_P22 ha hp0.2.1 hu.2.1 hu.2.2.1 hp0.2.2.1 (hu.2.2.2.1 a ha)
  have hal := qp_al_lt (r := r) (k := q) (p := a) (qp_f14 hp0 ha)
  have h170 := m170 (L := L) (xs := xs) (d := d + 2) (x := 0) (M := M) (show qp_al r q (f a) a < 2 ^ 31 by omega) (show p < 31 by omega)
  by_cases y : p = a
  · subst y
    rw [if_pos rfl]
    simp only [s25_0, s25_1, s25_2, s25_5, s25_6, s25_7, s25_10, s25_11, s25_14, s25_15, s25_18, s25_19, s25_22, s25_25, s25_26, s25_29, s25_30i, s25_30r, s25_30n, s25_31, s25_32, s25_33, s25_36, s25_37, s25_40, s25_41, s25_44, s25_47, s25_50, s25_51, s25_54, s25_55i, s25_55r, s25_55n, s25_57, s25_58, s25_61, s25_63, s25_66, s25_67, s25_68, s25_69, s25_70, s25_73, s25_74, s25_75, s25_76, s25_79, s25_80, s25_83, s25_86, s25_89, s25_90, s25_91, s25_92, s25_95, s25_96, s25_99, s25_100, s25_103, s25_106, s25_107, s25_110, s25_113, s25_116, s25_117, s25_120, s25_121, qx_m20.1, z31, z32, z10, zil hi hi2, h9, h10, List.length_cons, List.length_nil, Nat.zero_le, Nat.reduceAdd, Nat.reduceLeDiff, Option.bind_some, qx_kn_v, qx_kn_n, Nat.add_zero, Bool.false_eq_true, ↓reduceIte]
  · have t : (nI p = nI a) = False := by rw [qi_eq (by omega) (by omega)]; exact eq_false y
    rw [if_neg y]
    by_cases z : mt p < 14
    · rw [decide_eq_true z, Bool.not_true] at h47
      rw [if_pos z]
      simp only [s25_0, s25_1, s25_2, s25_5, s25_6, s25_7, s25_10, s25_11, s25_14, s25_15, s25_18, s25_19, s25_22, s25_25, s25_26, s25_29, s25_30i, s25_30r, s25_30n, s25_31, s25_32, s25_33, s25_36, s25_37, s25_40, s25_41, s25_44, s25_47, s25_50, s25_51, s25_54, s25_55i, s25_55r, s25_55n, s25_57, s25_58, s25_61, s25_63, s25_66, s25_67, s25_68, s25_69, s25_70, s25_73, s25_74, s25_75, s25_76, s25_79, s25_80, s25_83, s25_86, s25_89, s25_90, s25_91, s25_92, s25_95, s25_96, s25_99, s25_100, s25_103, s25_106, s25_107, s25_110, s25_113, s25_116, s25_117, s25_120, s25_121, qx_m20.1, qx_P22.1, z31, z32, zil hi hi2, h9, h10, t, h47, qbf, qi_z0, List.length_cons, List.length_nil, Nat.zero_le, Nat.reduceAdd, Nat.reduceLeDiff, Option.bind_some, qx_kn_v, qx_kn_n, Nat.add_zero, Bool.false_eq_true, ↓reduceIte]
    · rw [decide_eq_false z, Bool.not_false] at h47
      rw [if_neg z]
      cases w : (qp_al r q (f a) a).testBit p
      · rw [w] at h170
        simp only [s25_0, s25_1, s25_2, s25_5, s25_6, s25_7, s25_10, s25_11, s25_14, s25_15, s25_18, s25_19, s25_22, s25_25, s25_26, s25_29, s25_30i, s25_30r, s25_30n, s25_31, s25_32, s25_33, s25_36, s25_37, s25_40, s25_41, s25_44, s25_47, s25_50, s25_51, s25_54, s25_55i, s25_55r, s25_55n, s25_57, s25_58, s25_61, s25_63, s25_66, s25_67, s25_68, s25_69, s25_70, s25_73, s25_74, s25_75, s25_76, s25_79, s25_80, s25_83, s25_86, s25_89, s25_90, s25_91, s25_92, s25_95, s25_96, s25_99, s25_100, s25_103, s25_106, s25_107, s25_110, s25_113, s25_116, s25_117, s25_120, s25_121, qx_m20.1, qx_P22.1, z31, z32, zil hi hi2, h9, h10, t, h47, h42, h170, qbf, qbt, qi_z0, List.length_cons, List.length_nil, Nat.zero_le, Nat.reduceAdd, Nat.reduceLeDiff, Option.bind_some, qx_kn_v, qx_kn_n, Nat.add_zero, Bool.false_eq_true, ↓reduceIte]
      · rw [w] at h170
        simp only [s25_0, s25_1, s25_2, s25_5, s25_6, s25_7, s25_10, s25_11, s25_14, s25_15, s25_18, s25_19, s25_22, s25_25, s25_26, s25_29, s25_30i, s25_30r, s25_30n, s25_31, s25_32, s25_33, s25_36, s25_37, s25_40, s25_41, s25_44, s25_47, s25_50, s25_51, s25_54, s25_55i, s25_55r, s25_55n, s25_57, s25_58, s25_61, s25_63, s25_66, s25_67, s25_68, s25_69, s25_70, s25_73, s25_74, s25_75, s25_76, s25_79, s25_80, s25_83, s25_86, s25_89, s25_90, s25_91, s25_92, s25_95, s25_96, s25_99, s25_100, s25_103, s25_106, s25_107, s25_110, s25_113, s25_116, s25_117, s25_120, s25_121, qx_m20.1, qx_P22.1, z31, z32, zil hi hi2, h9, h10, t, h47, h42, h170, qbt, qi_z0, List.length_cons, List.length_nil, Nat.zero_le, Nat.reduceAdd, Nat.reduceLeDiff, Option.bind_some, qx_kn_v, qx_kn_n, Nat.add_zero, Bool.false_eq_true, ↓reduceIte]
theorem m26_0 (hu : qPu 22 M n r q f mt) (h9 : M.1 20 9 = nI p) (hp : p < 14) : ∃ M1, Rs L xs (d + 2) 26 0 [some (.ref (20)), some (.int (nI 0)), some (.int (nI i))] [] (M) x = some (.inl (none), M1, x) ∧ qPu 22 M1 n r (q ||| 2 ^ p) f mt ∧ (∀ j, j < 10 → M1.1 20 j = M.1 20 j) ∧ qf (fun a => a = 20 ∨ 22 ≤ a ∧ a ≤ 24) M M1 := by
  have h38 : Rs L xs (d + 1) 38 0 [some (.ref 22), some (.int (nI p)), some (.int (nI 1))] [] M 0 = some (.inl none, qx_up M 22 2 (nI (q ||| 2 ^ p)), 0) := m38 (L := L) (xs := xs) (d := d) (x := 0) qx_P22 hp hu.2.2.1 true
  have F : qf (fun a => a = 22) M (qx_up M 22 2 (nI (q ||| 2 ^ p))) := qf_up _ _ _ _ rfl
  have e9 : (qx_up M 22 2 (nI (q ||| 2 ^ p))).1 20 9 = nI p := by rw [F.1 20 (by decide), h9]
  obtain ⟨M1, g1, c1, c2, c3, c4, f1⟩ := m26t (L := L) (xs := xs) (d := d + 1) (x := x) (i := i) (so := nI 0) (show p < 31 by omega) e9
  have G : qf (fun a => a = 20 ∨ 22 ≤ a ∧ a ≤ 24) M M1 := qf_trans (qf_mono F (fun a e => by omega)) (qf_mono f1 (fun a e => Or.inl e))
  refine ⟨M1, ?_, ?_, fun j hj => by rw [c1 j hj, F.1 20 (by decide)], G⟩
  · simp only [s26_0, s26_1, s26_4, s26_5, s26_8, s26_9, s26_12, s26_13, s26_16, qx_m20.1, qx_P22.1, h9, h38, qi_z0, List.length_cons, List.length_nil, Nat.zero_le, Nat.reduceAdd, Nat.reduceLeDiff, Option.bind_some, qx_kn_v, qx_kn_n, Nat.add_zero, Bool.false_eq_true, ↓reduceIte]
    exact g1
  · obtain ⟨u0, u1, u2, u3, u4⟩ := hu
    refine ⟨?_, ?_, ?_, fun z hz => ?_, fun z hz => ?_⟩
    · rw [f1.1 22 (by decide), qx_up_at, if_neg (by omega), u0]
    · rw [f1.1 22 (by decide), qx_up_at, if_neg (by omega), u1]
    · rw [f1.1 22 (by decide), qx_up_eq]
    · rw [f1.1 23 (by decide), F.1 23 (by decide), u3 z hz]
    · rw [f1.1 (22 + 2) (by decide), F.1 (22 + 2) (by decide), u4 z hz]
theorem qPu_20 (hu : qPu 22 M n r q f mt) {M1 : qxM} (h : qf (fun a => a = 20) M M1) : qPu 22 M1 n r q f mt := qPu_step (t := 0) hu h (qMt_fr hu.2.2.2.2 h (by decide)) (by decide) (by decide)
/-- the first pupil of friends, ring, pair -/
theorem m26_z {k : Nat} (hk : k = 1 ∨ k = 2 ∨ k = 3) (hu : qPu 22 M n r q f mt) (h9 : M.1 20 9 = nI p) (hp : p < 14) : ∃ M1, Rs L xs (d + 2) 26 0 [some (.ref (20)), some (.int (nI k)), some (.int (nI 0))] [] (M) x = some (.inl (none), M1, x) ∧ qPu 22 M1 n r q f mt ∧ (∀ j, j < 10 → M1.1 20 j = M.1 20 j) ∧ M1.1 20 10 = nI p ∧ M1.1 20 11 = nI p ∧ (∀ S : Nat, M.1 20 12 = nI S → M1.1 20 12 = nI (S ||| 2 ^ p)) ∧ qf (fun a => a = 20 ∨ 22 ≤ a ∧ a ≤ 24) M M1 := by
  obtain ⟨M1, g1, c1, c2, c3, c4, f1⟩ := m26t (L := L) (xs := xs) (d := d + 1) (x := x) (i := 0) (so := nI k) (show p < 31 by omega) h9
  refine ⟨M1, ?_, qPu_20 hu f1, c1, ?_, c3, c4, qf_mono f1 (fun a e => Or.inl e)⟩
  · rw [← g1]
    rcases hk with h | h | h <;> subst h
    · simp only [s26_0, s26_1, s26_4, s26_5, s26_8, s26_9, s26_12, s26_13, s26_16, s26_19, s26_20, s26_21, s26_24, s26_25, s26_28, s26_29, s26_32, s26_33, s26_36, s26_37, s26_40, s26_41, s26_44, s26_47, s26_48, s26_49, s26_52, s26_53, s26_56, s26_57, s26_60, s26_61, s26_64, s26_65, s26_68, s26_69, s26_72, s26_75, s26_76, s26_77, s26_80, s26_81, s26_84, s26_85, s26_88, s26_89, s26_92, s26_93, s26_96, z10, z12, z13, z00, List.length_cons, List.length_nil, Nat.zero_le, Nat.reduceAdd, Nat.reduceLeDiff, Option.bind_some, qx_kn_v, qx_kn_n, Nat.add_zero, Bool.false_eq_true, ↓reduceIte]
    · simp only [s26_0, s26_1, s26_4, s26_5, s26_8, s26_9, s26_12, s26_13, s26_16, s26_19, s26_20, s26_21, s26_24, s26_25, s26_28, s26_29, s26_32, s26_33, s26_36, s26_37, s26_40, s26_41, s26_44, s26_47, s26_48, s26_49, s26_52, s26_53, s26_56, s26_57, s26_60, s26_61, s26_64, s26_65, s26_68, s26_69, s26_72, s26_75, s26_76, s26_77, s26_80, s26_81, s26_84, s26_85, s26_88, s26_89, s26_92, s26_93, s26_96, z20, z21, z23, z00, List.length_cons, List.length_nil, Nat.zero_le, Nat.reduceAdd, Nat.reduceLeDiff, Option.bind_some, qx_kn_v, qx_kn_n, Nat.add_zero, Bool.false_eq_true, ↓reduceIte]
    · simp only [s26_0, s26_1, s26_4, s26_5, s26_8, s26_9, s26_12, s26_13, s26_16, s26_19, s26_20, s26_21, s26_24, s26_25, s26_28, s26_29, s26_32, s26_33, s26_36, s26_37, s26_40, s26_41, s26_44, s26_47, s26_48, s26_49, s26_52, s26_53, s26_56, s26_57, s26_60, s26_61, s26_64, s26_65, s26_68, s26_69, s26_72, s26_75, s26_76, s26_77, s26_80, s26_81, s26_84, s26_85, s26_88, s26_89, s26_92, s26_93, s26_96, z30, z31, z32, z00, List.length_cons, List.length_nil, Nat.zero_le, Nat.reduceAdd, Nat.reduceLeDiff, Option.bind_some, qx_kn_v, qx_kn_n, Nat.add_zero, Bool.false_eq_true, ↓reduceIte]
  · rw [c2, if_pos (by decide)]
theorem m26_1 (hi : 0 < i) (hi2 : i < 2 ^ 31) (hu : qPu 22 M n r q f mt) (h9 : M.1 20 9 = nI p) (h10 : M.1 20 10 = nI a) (hp : p < 14) (ha : a < 14) (hap : a ≠ p) : ∃ M1, Rs L xs (d + 2) 26 0 [some (.ref (20)), some (.int (nI 1)), some (.int (nI i))] [] (M) x = some (.inl (none), M1, x) ∧ qPu 22 M1 n r q (qp_be f a p true) mt ∧ (∀ j, j < 10 → M1.1 20 j = M.1 20 j) ∧ M1.1 20 10 = nI a ∧ qf (fun a => a = 20 ∨ 22 ≤ a ∧ a ≤ 24) M M1 := by
  obtain ⟨Ma, g0, c0, F⟩ := qPu_be22 (L := L) (xs := xs) (d := d) (x := 0) hu ha hp hap true
  have e20 : Ma.1 20 = M.1 20 := F.1 20 (by decide)
  obtain ⟨M1, g1, c1, c2, c3, c4, f1⟩ := m26t (L := L) (xs := xs) (d := d + 1) (x := x) (i := i) (so := nI 1) (M := Ma) (show p < 31 by omega) (by rw [e20, h9])
  refine ⟨M1, ?_, qPu_20 c0 f1, fun j hj => by rw [c1 j hj, e20], ?_, qf_trans (qf_mono F (fun a e => by omega)) (qf_mono f1 (fun a e => Or.inl e))⟩
  · have hb : bI true = nI 1 := rfl
    rw [hb] at g0
    simp only [s26_0, s26_1, s26_4, s26_5, s26_8, s26_9, s26_12, s26_13, s26_16, s26_19, s26_20, s26_21, s26_24, s26_25, s26_28, s26_29, s26_32, s26_33, s26_36, s26_37, s26_40, s26_41, s26_44, qx_m20.1, qx_P22.1, z10, zil hi hi2, h9, h10, g0, List.length_cons, List.length_nil, Nat.zero_le, Nat.reduceAdd, Nat.reduceLeDiff, Option.bind_some, qx_kn_v, qx_kn_n, Nat.add_zero, Bool.false_eq_true, ↓reduceIte]
    exact g1
  · rw [c2, if_neg (by rw [zi0 hi hi2]; exact id), e20, h10]
theorem m26_2 {b : Nat} (hi : 0 < i) (hi2 : i < 2 ^ 31) (hu : qPu 22 M n r q f mt) (h9 : M.1 20 9 = nI p) (h10 : M.1 20 10 = nI a) (h11 : M.1 20 11 = nI b) (hp : p < 14) (hb : b < 14) (hbp : b ≠ p) : ∃ M1, Rs L xs (d + 2) 26 0 [some (.ref (20)), some (.int (nI 2)), some (.int (nI i))] [] (M) x = some (.inl (none), M1, x) ∧ qPu 22 M1 n r q (qp_be f b p true) mt ∧ (∀ j, j < 10 → M1.1 20 j = M.1 20 j) ∧ M1.1 20 10 = nI a ∧ M1.1 20 11 = nI p ∧ (∀ S : Nat, M.1 20 12 = nI S → M1.1 20 12 = nI (S ||| 2 ^ p)) ∧ qf (fun a => a = 20 ∨ 22 ≤ a ∧ a ≤ 24) M M1 := by
  obtain ⟨Ma, g0, c0, F⟩ := qPu_be22 (L := L) (xs := xs) (d := d) (x := 0) hu hb hp hbp true
  have e20 : Ma.1 20 = M.1 20 := F.1 20 (by decide)
  obtain ⟨M1, g1, c1, c2, c3, c4, f1⟩ := m26t (L := L) (xs := xs) (d := d + 1) (x := x) (i := i) (so := nI 2) (M := Ma) (show p < 31 by omega) (by rw [e20, h9])
  refine ⟨M1, ?_, qPu_20 c0 f1, fun j hj => by rw [c1 j hj, e20], ?_, c3, fun S hS => c4 S (by rw [e20, hS]), qf_trans (qf_mono F (fun a e => by omega)) (qf_mono f1 (fun a e => Or.inl e))⟩
  · have hb : bI true = nI 1 := rfl
    rw [hb] at g0
    simp only [s26_0, s26_1, s26_4, s26_5, s26_8, s26_9, s26_12, s26_13, s26_16, s26_19, s26_20, s26_21, s26_24, s26_25, s26_28, s26_29, s26_32, s26_33, s26_36, s26_37, s26_40, s26_41, s26_44, s26_47, s26_48, s26_49, s26_52, s26_53, s26_56, s26_57, s26_60, s26_61, s26_64, s26_65, s26_68, s26_69, s26_72, qx_m20.1, qx_P22.1, z20, z21, zil hi hi2, h9, h11, g0, List.length_cons, List.length_nil, Nat.zero_le, Nat.reduceAdd, Nat.reduceLeDiff, Option.bind_some, qx_kn_v, qx_kn_n, Nat.add_zero, Bool.false_eq_true, ↓reduceIte]
    exact g1
  · rw [c2, if_neg (by rw [zi0 hi hi2]; exact id), e20, h10]
theorem m26_3 (hi : 0 < i) (hi2 : i < 2 ^ 31) (hu : qPu 22 M n r q f mt) (h9 : M.1 20 9 = nI p) (h10 : M.1 20 10 = nI a) (hp : p < 14) (ha : a < 14) : ∃ M1, Rs L xs (d + 2) 26 0 [some (.ref (20)), some (.int (nI 3)), some (.int (nI i))] [] (M) x = some (.inl (none), M1, x) ∧ qPu 22 M1 n r q f (qu (qu mt a p) p a) ∧ (∀ j, j < 10 → M1.1 20 j = M.1 20 j) ∧ qf (fun a => a = 20 ∨ 22 ≤ a ∧ a ≤ 24) M M1 := by
  obtain ⟨Ma, g0, c0, F⟩ := g49 (L := L) (xs := xs) (d := d) (x := 0) (u := 22) (M := M) qx_P22 ha hp hu.2.2.2.2
  have e20 : Ma.1 20 = M.1 20 := F.1 20 (by decide)
  have hu' := qPu_step (t := 0) hu F c0 (by decide) (by decide)
  obtain ⟨M1, g1, c1, c2, c3, c4, f1⟩ := m26t (L := L) (xs := xs) (d := d + 1) (x := x) (i := i) (so := nI 3) (M := Ma) (show p < 31 by omega) (by rw [e20, h9])
  refine ⟨M1, ?_, qPu_20 hu' f1, fun j hj => by rw [c1 j hj, e20], qf_trans (qf_mono F (fun a e => by omega)) (qf_mono f1 (fun a e => Or.inl e))⟩
  simp only [s26_0, s26_1, s26_4, s26_5, s26_8, s26_9, s26_12, s26_13, s26_16, s26_19, s26_20, s26_21, s26_24, s26_25, s26_28, s26_29, s26_32, s26_33, s26_36, s26_37, s26_40, s26_41, s26_44, s26_47, s26_48, s26_49, s26_52, s26_53, s26_56, s26_57, s26_60, s26_61, s26_64, s26_65, s26_68, s26_69, s26_72, s26_75, s26_76, s26_77, s26_80, s26_81, s26_84, s26_85, s26_88, s26_89, s26_92, s26_93, s26_96, qx_m20.1, qx_P22.1, z30, z31, z32, zil hi hi2, h9, h10, g0, List.length_cons, List.length_nil, Nat.zero_le, Nat.reduceAdd, Nat.reduceLeDiff, Option.bind_some, qx_kn_v, qx_kn_n, Nat.add_zero, Bool.false_eq_true, ↓reduceIte]
  exact g1
end QL
