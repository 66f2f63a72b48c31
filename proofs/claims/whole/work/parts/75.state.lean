/-! State: copies, starts, steps, runs. -/
abbrev qGs : Type := (Nat × Nat × Nat) × (Nat → Nat) × (Nat → Nat) × (Int32 × Int32 × Int32 × Int32) × qSg
def cT (s : Nat) (M : qxM) (G : qGs) : Prop := qPu (s + 1) M G.1.1 G.1.2.1 G.1.2.2 G.2.1 G.2.2.1 ∧ (M.1 s 2 = G.2.2.2.1.1 ∧ M.1 s 3 = G.2.2.2.1.2.1 ∧ M.1 s 4 = G.2.2.2.1.2.2.1 ∧ M.1 s 5 = G.2.2.2.1.2.2.2) ∧ cS (s + 4) M G.2.2.2.2
def mT (M : qxM) (G : qGs) : Prop := nPu M G.1.1 G.1.2.1 G.1.2.2 G.2.1 G.2.2.1 ∧ (M.1 401 3 = G.2.2.2.1.1 ∧ M.1 401 4 = G.2.2.2.1.2.1 ∧ M.1 401 5 = G.2.2.2.1.2.2.1 ∧ M.1 401 6 = G.2.2.2.1.2.2.2) ∧ M.1 401 35 = nI G.2.2.2.2.1.1 ∧ (G.2.2.2.2.1.1 ≠ 0 → mS M G.2.2.2.2)
def gG (G : qGs) : Prop := qp_ok G.1.1 G.1.2.1 G.1.2.2 G.2.1 G.2.2.1 ∧ (G.2.2.2.2.1.1 = 0 ∨ gT G.1.1 G.2.2.1 G.2.2.2.2) ∧ (G.2.2.2.2.2.1.1 < 16384 ∧ G.2.2.2.2.2.1.2.1 < 16384 ∧ G.2.2.2.2.2.1.2.2.2.1 ≤ 14) ∧ G.2.2.2.2.1.1 < 4
def qTf (s a : Nat) : Prop := s ≤ a ∧ a ≤ s + 12
theorem gT_b {n : Nat} {mt : Nat → Nat} {g : qSg} (h : gT n mt g) : g.2.1.1 < 16384 ∧ g.2.1.2.1 < 16384 ∧ g.2.1.2.2.2.1 ≤ 14 ∧ g.1.1 < 4 ∧ g.1.1 ≠ 0 := by
  obtain ⟨h1, ⟨mt0, tm, h2, h3⟩, h4⟩ := h
  have he := qs_e_le h2.2.2.2.2.2.2
  exact ⟨h2.2.2.1, h2.2.2.2.1, by have := h2.1; omega, by omega, by omega⟩
section QL
variable {L : Nat} {xs : Nat → Int32} {d x : Nat} {M : qxM}
theorem g176 {t t0 n : Nat} (hk0 : qx_kd t0 = 0) (hk : qx_kd t = 0) (hn0 : qx_ln t0 = n) (hn : qx_ln t = n) (hn2 : n < 2 ^ 31) :
    ∃ M', Rs L xs d 176 0 [some (.ref t0), some (.ref t)] [] M x = some (.inl none, M', x) ∧ (∀ j, j < n → M'.1 t j = M.1 t0 j) ∧ qf (fun a => a = t) M M' := by
  refine ⟨_, m176 hk0 hk hn0 hn hn2, ?_, qf_ur _ _ _ rfl⟩
  intro j hj
  rw [qx_ur_eq, if_pos hj]
theorem g35 {t u n r q : Nat} {f mt : Nat → Nat} (hP : qx_P t) (hU : qx_P u) (hd : u + 2 < t ∨ t + 2 < u) (h : qPu u M n r q f mt) :
    ∃ M', Rs L xs (d + 1) 35 0 [some (.ref (t)), some (.ref (u))] [] (M) x = some (.inl (none), M', x) ∧ qPu t M' n r q f mt ∧ qf (fun a => t ≤ a ∧ a ≤ t + 2) M M' := by
  obtain ⟨a1, a2, a3, a4, a5⟩ := h
  refine ⟨_, m35 hP hU (by omega) (by omega) (by omega) (by omega), ⟨?_, ?_, ?_, ?_, ?_⟩, ?_⟩
  · rw [qx_ur_ne _ _ (by omega), qx_ur_ne _ _ (by omega)]
    simp [qp_c3, qx_up_at, a1]
  · rw [qx_ur_ne _ _ (by omega), qx_ur_ne _ _ (by omega)]
    simp [qp_c3, qx_up_at, a2]
  · rw [qx_ur_ne _ _ (by omega), qx_ur_ne _ _ (by omega)]
    simp [qp_c3, qx_up_at, a3]
  · intro p hp
    rw [qx_ur_ne _ _ (by omega), qx_ur_eq]
    unfold qp_cp
    rw [if_pos hp]
    exact a4 p hp
  · intro p hp
    rw [qx_ur_eq]
    unfold qp_cp
    rw [if_pos hp]
    exact a5 p hp
  · unfold qp_c3
    exact qf_trans (qf_up _ _ _ _ (by omega)) (qf_trans (qf_up _ _ _ _ (by omega)) (qf_trans (qf_up _ _ _ _ (by omega)) (qf_trans (qf_ur _ _ _ (by omega)) (qf_ur _ _ _ (by omega)))))
theorem g54 {t : Nat} {st rt sp bm ou inn qb e as : Nat} {qa bs lk nr fr : Nat → Nat} {wy : Nat → List Nat} (hZ : qx_Z t) (h : qS t M st rt sp bm ou inn qb e as qa bs lk nr fr wy) :
    ∃ M', Rs L xs (d) 54 0 [some (.ref (t))] [] (M) x = some (.inl (none), M', x) ∧ qS t M' 0 rt sp bm ou inn qb e as qa bs lk nr fr wy ∧ qf (fun a => a = t) M M' := by
  refine ⟨qx_up M t 0 (nI 0), ?_, qS_t (st' := 0) (rt' := rt) (sp' := sp) (bm' := bm) (ou' := ou) (inn' := inn) (qb' := qb) (e' := e) (as' := as) h ?_ (Nat.le_refl _), qf_up _ _ _ _ rfl⟩
  · simp only [s54_0, s54_1, s54_2, s54_5, hZ.1]
  · obtain ⟨t0, t1, t2, t3, t4, t5, t6, t7, t8⟩ := h.1
    unfold qS1
    simp [qx_up_at, t1, t2, t3, t4, t5, t6, t7, t8]
theorem g86 {t u : Nat} {wy : Nat → List Nat} (hY : qx_Y t) (hU : qx_Y u) (hd : u + 2 < t ∨ t + 2 < u) (h : qW u M wy) :
    ∃ M', Rs L xs (d + 1) 86 0 [some (.ref (t)), some (.ref (u))] [] (M) x = some (.inl (none), M', x) ∧ qW t M' wy ∧ qf (qWf t) M M' := by
  refine ⟨_, m86 hY hU (by omega), ?_, qf_trans (qf_ur _ _ _ (Or.inl rfl)) (qf_ur _ _ _ (Or.inr rfl))⟩
  intro p hp
  obtain ⟨h1, h2, h3⟩ := h p hp
  refine ⟨h1, ?_, ?_⟩
  · rw [qx_ur_eq]
    unfold qp_cp
    rw [if_pos hp, h2]
  · intro i hi
    rw [qx_ur_ne _ _ (by omega), qx_ur_eq]
    unfold qp_cp
    rw [if_pos (by omega), h3 i hi]
theorem g55 {t u : Nat} {st rt sp bm ou inn qb e as : Nat} {qa bs lk nr fr : Nat → Nat} {wy : Nat → List Nat} (hZ : qx_Z t) (hU : qx_Z u) (hd : u + 8 < t ∨ t + 8 < u) (he : e ≤ 14) (h : qS u M st rt sp bm ou inn qb e as qa bs lk nr fr wy) :
    ∃ M', Rs L xs (d + 2) 55 0 [some (.ref (t)), some (.ref (u))] [] (M) x = some (.inl (none), M', x) ∧ qS t M' st rt sp bm ou inn qb e as qa bs lk nr fr wy ∧ qf (qSf t) M M' := by
  obtain ⟨⟨t0, t1, t2, t3, t4, t5, t6, t7, t8⟩, s2, s3, s4, s5, s6, s7⟩ := h
  have k1 := hZ.2.1 1 (by decide) (by decide)
  have k2 := hZ.2.1 2 (by decide) (by decide)
  have k3 := hZ.2.1 3 (by decide) (by decide)
  have k4 := hZ.2.1 4 (by decide) (by decide)
  have k5 := hZ.2.1 5 (by decide) (by decide)
  have l1 := hU.2.1 1 (by decide) (by decide)
  have l2 := hU.2.1 2 (by decide) (by decide)
  have l3 := hU.2.1 3 (by decide) (by decide)
  have l4 := hU.2.1 4 (by decide) (by decide)
  have l5 := hU.2.1 5 (by decide) (by decide)
  have hne : ∀ (A : qxM) (k : Nat) (v : Int32), (qx_up A t k v).1 u = A.1 u := fun A k v => qx_up_ne A k v (by omega)
  have h1 : ∃ A, Rs L xs (d + 2) 55 0 [some (.ref t), some (.ref u)] [] M x = Rs L xs (d + 2) 55 72 [some (.ref t), some (.ref u)] [] A x ∧ qS1 t A st rt sp bm ou inn qb e as ∧ qf (fun a => a = t) M A := by
    refine ⟨qx_up (qx_up (qx_up (qx_up (qx_up (qx_up (qx_up (qx_up (qx_up M t 0 (nI st)) t 1 (nI rt)) t 2 (nI sp)) t 3 (nI bm)) t 4 (nI ou)) t 5 (nI inn)) t 6 (nI qb)) t 7 (nI e)) t 8 (nI as), ?_, ?_, ?_⟩
    · simp only [s55_0, s55_1, s55_2, s55_5, s55_8, s55_9, s55_10, s55_13, s55_16, s55_17, s55_18, s55_21, s55_24, s55_25, s55_26, s55_29, s55_32, s55_33, s55_34, s55_37, s55_40, s55_41, s55_42, s55_45, s55_48, s55_49, s55_50, s55_53, s55_56, s55_57, s55_58, s55_61, s55_64, s55_65, s55_66, s55_69, hZ.1, hU.1, hne, t0, t1, t2, t3, t4, t5, t6, t7, t8]
    · unfold qS1
      simp [qx_up_at]
    · exact qf_trans (qf_up _ _ _ _ rfl) (qf_trans (qf_up _ _ _ _ rfl) (qf_trans (qf_up _ _ _ _ rfl) (qf_trans (qf_up _ _ _ _ rfl) (qf_trans (qf_up _ _ _ _ rfl) (qf_trans (qf_up _ _ _ _ rfl) (qf_trans (qf_up _ _ _ _ rfl) (qf_trans (qf_up _ _ _ _ rfl) (qf_up _ _ _ _ rfl))))))))
  obtain ⟨A0, g0, w0, f0⟩ := h1
  obtain ⟨A1, g1, w1, f1⟩ := g176 (L := L) (xs := xs) (d := d + 1) (x := 0) (M := A0) l1.1 k1.1 l1.2 k1.2 (by decide)
  obtain ⟨A2, g2, w2, f2⟩ := g176 (L := L) (xs := xs) (d := d + 1) (x := 0) (M := A1) l2.1 k2.1 l2.2 k2.2 (by decide)
  obtain ⟨A3, g3, w3, f3⟩ := g176 (L := L) (xs := xs) (d := d + 1) (x := 0) (M := A2) l3.1 k3.1 l3.2 k3.2 (by decide)
  obtain ⟨A4, g4, w4, f4⟩ := g176 (L := L) (xs := xs) (d := d + 1) (x := 0) (M := A3) l4.1 k4.1 l4.2 k4.2 (by decide)
  obtain ⟨A5, g5, w5, f5⟩ := g176 (L := L) (xs := xs) (d := d + 1) (x := 0) (M := A4) l5.1 k5.1 l5.2 k5.2 (by decide)
  have F : ∀ j, j ≤ 5 → ∀ a, a = t + j → qSf t a := fun j hj a ha => ⟨by omega, by omega⟩
  have F0 : qf (qSf t) M A0 := qf_mono f0 (fun a ha => ⟨by omega, by omega⟩)
  have F1 := qf_trans F0 (qf_mono f1 (F 1 (by decide)))
  have F2 := qf_trans F1 (qf_mono f2 (F 2 (by decide)))
  have F3 := qf_trans F2 (qf_mono f3 (F 3 (by decide)))
  have F4 := qf_trans F3 (qf_mono f4 (F 4 (by decide)))
  have F5 := qf_trans F4 (qf_mono f5 (F 5 (by decide)))
  have hu : ∀ j, j ≤ 8 → ¬ qSf t (u + j) := fun j hj q => by unfold qSf at q; omega
  have s7' : qW (u + 6) A5 wy := qW_fr s7 F5 (hu 7 (by decide)) (hu 8 (by decide))
  obtain ⟨A6, g6, w6, f6⟩ := g86 (L := L) (xs := xs) (d := d) (x := 0) (t := t + 6) (u := u + 6) (M := A5) hZ.2.2 hU.2.2 (by omega) s7'
  have c6 : ∀ j, j ≤ 6 → A6.1 (t + j) = A5.1 (t + j) := fun j hj => f6.1 _ (by unfold qWf; omega)
  refine ⟨A6, ?_, ⟨?_, ?_, ?_, ?_, ?_, ?_, w6⟩, qf_trans F5 (qf_mono f6 (fun a ha => by unfold qWf at ha; unfold qSf; omega))⟩
  · rw [g0]
    simp only [s55_72, s55_73, s55_76, s55_77, s55_80, s55_83, s55_84, s55_87, s55_88, s55_91, s55_94, s55_95, s55_98, s55_99, s55_102, s55_105, s55_106, s55_109, s55_110, s55_113, s55_116, s55_117, s55_120, s55_121, s55_124, s55_127, s55_128, s55_131, s55_132, s55_135, s55_138, hZ.1, hU.1, hZ.2.2.1, hU.2.2.1, g1, g2, g3, g4, g5, g6, List.length_cons, List.length_nil, Nat.zero_le, Nat.reduceAdd, Nat.reduceLeDiff, Option.bind_some, qx_kn_v, qx_kn_n, Nat.add_zero, Bool.false_eq_true, ↓reduceIte]
  · unfold qS1 at w0 ⊢
    rw [show A6.1 t = A5.1 t from c6 0 (by decide), f5.1 t (by omega), f4.1 t (by omega), f3.1 t (by omega), f2.1 t (by omega), f1.1 t (by omega)]
    exact w0
  · intro j hj
    rw [c6 1 (by decide), f5.1 _ (by omega), f4.1 _ (by omega), f3.1 _ (by omega), f2.1 _ (by omega), w1 j (by omega), F0.1 _ (hu 1 (by decide))]
    exact s2 j hj
  · intro p hp
    rw [c6 2 (by decide), f5.1 _ (by omega), f4.1 _ (by omega), f3.1 _ (by omega), w2 p hp, F1.1 _ (hu 2 (by decide))]
    exact s3 p hp
  · intro p hp
    rw [c6 3 (by decide), f5.1 _ (by omega), f4.1 _ (by omega), w3 p hp, F2.1 _ (hu 3 (by decide))]
    exact s4 p hp
  · intro p hp
    rw [c6 4 (by decide), f5.1 _ (by omega), w4 p hp, F3.1 _ (hu 4 (by decide))]
    exact s5 p hp
  · intro p hp
    rw [c6 5 (by decide), w5 p hp, F4.1 _ (hu 5 (by decide))]
    exact s6 p hp
/-- a search that is ended; a search that begins -/
def gEnd (g : qSg) : qSg := ((0, g.1.2), g.2)
def gBeg (p : Nat) (qa : Nat → Nat) : qSg := ((1, p, 0, 0), (2 ^ p, 0, 0, 1, 0), qu qa 0 p, (fun j => j), (fun _ => 14), (fun _ => 14), (fun _ => 14), qu (fun _ => []) p [p])
theorem g73 {s u n r q : Nat} {f mt : Nat → Nat} {g : qSg} (hT : qx_T s) (hU : qx_P u) (hd : u + 2 < s ∨ s + 12 < u) (h : qPu u M n r q f mt) (hS : cS (s + 4) M g) :
    ∃ M', Rs L xs (d + 2) 73 0 [some (.ref (s)), some (.ref (u))] [] (M) x = some (.inl (none), M', x) ∧ cT s M' ((n, r, q), f, mt, (0, 0, 0, 0), gEnd g) ∧ qf (qTf s) M M' := by
  obtain ⟨h1, h2, h3⟩ := hT
  obtain ⟨A1, g1, w1, f1⟩ := g35 (L := L) (xs := xs) (d := d) (x := 0) (t := s + 1) h2 hU (by omega) h
  obtain ⟨A2, g2, w2, f2⟩ := g54 (L := L) (xs := xs) (d := d + 1) (x := 0) (t := s + 4) h3 (qS_fr hS f1 (fun a ha => by omega))
  have f3 : qf (fun a => a = s) A2 (qx_up (qx_up (qx_up (qx_up A2 s 2 (nI 0)) s 3 (nI 0)) s 4 (nI 0)) s 5 (nI 0)) := qf_trans (qf_up _ _ _ _ rfl) (qf_trans (qf_up _ _ _ _ rfl) (qf_trans (qf_up _ _ _ _ rfl) (qf_up _ _ _ _ rfl)))
  have f23 : qf (fun a => a = s ∨ a = s + 4) A1 (qx_up (qx_up (qx_up (qx_up A2 s 2 (nI 0)) s 3 (nI 0)) s 4 (nI 0)) s 5 (nI 0)) := qf_trans (qf_mono f2 (fun a ha => Or.inr ha)) (qf_mono f3 (fun a ha => Or.inl ha))
  refine ⟨_, ?_, ⟨?_, ?_, ?_⟩, qf_trans (qf_mono f1 (fun a ha => ⟨by omega, by omega⟩)) (qf_mono f23 (fun a ha => by unfold qTf; omega))⟩
  · simp only [s73_0, s73_1, s73_4, s73_5, s73_8, s73_9, s73_12, s73_15, s73_16, s73_17, s73_20, s73_21, s73_22, s73_25, s73_26, s73_27, s73_30, s73_31, s73_32, s73_35, h1, h2.1, h3.1, hU.1, g1, g2, List.length_cons, List.length_nil, Nat.zero_le, Nat.reduceAdd, Nat.reduceLeDiff, Option.bind_some, qx_kn_v, qx_kn_n, Nat.add_zero, Bool.false_eq_true, ↓reduceIte]
  · exact qPu_step (t := 0) w1 f23 (qMt_fr w1.2.2.2.2 f23 (by omega)) (by omega) (by omega)
  · simp [qx_up_at]
    decide
  · exact qS_fr w2 f3 (fun a ha => by omega)
theorem g74 {s o : Nat} {G : qGs} (hT : qx_T s) (hO : qx_T o) (hd : o + 12 < s ∨ s + 12 < o) (h : cT o M G) (he : G.2.2.2.2.2.1.2.2.2.1 ≤ 14) :
    ∃ M', Rs L xs (d + 3) 74 0 [some (.ref (s)), some (.ref (o))] [] (M) x = some (.inl (none), M', x) ∧ cT s M' G ∧ qf (qTf s) M M' := by
  obtain ⟨h1, h2, h3⟩ := hT
  obtain ⟨o1, o2, o3⟩ := hO
  obtain ⟨a1, ⟨a2, a3, a4, a5⟩, a6⟩ := h
  obtain ⟨A1, g1, w1, f1⟩ := g35 (L := L) (xs := xs) (d := d + 1) (x := 0) (t := s + 1) (u := o + 1) h2 o2 (by omega) a1
  obtain ⟨A2, g2, w2, f2⟩ := g55 (L := L) (xs := xs) (d := d) (x := 0) (t := s + 4) (u := o + 4) (M := A1) h3 o3 (by omega) he (qS_fr a6 f1 (fun a ha => by omega))
  have f12 : qf (fun a => s + 1 ≤ a ∧ a ≤ s + 12) M A2 := qf_trans (qf_mono f1 (fun a ha => by omega)) (qf_mono f2 (fun a ha => by unfold qSf at ha; omega))
  have eo : A2.1 o = M.1 o := f12.1 o (by omega)
  have hne : ∀ (A : qxM) (k : Nat) (v : Int32), (qx_up A s k v).1 o = A.1 o := fun A k v => qx_up_ne A k v (by omega)
  have f3 : qf (fun a => a = s) A2 (qx_up (qx_up (qx_up (qx_up A2 s 2 (M.1 o 2)) s 3 (M.1 o 3)) s 4 (M.1 o 4)) s 5 (M.1 o 5)) := qf_trans (qf_up _ _ _ _ rfl) (qf_trans (qf_up _ _ _ _ rfl) (qf_trans (qf_up _ _ _ _ rfl) (qf_up _ _ _ _ rfl)))
  have w1' : qPu (s + 1) A2 G.1.1 G.1.2.1 G.1.2.2 G.2.1 G.2.2.1 := qPu_step (t := 0) w1 f2 (qMt_fr w1.2.2.2.2 f2 (by unfold qSf; omega)) (by unfold qSf; omega) (by unfold qSf; omega)
  refine ⟨_, ?_, ⟨?_, ?_, ?_⟩, qf_trans (qf_mono f12 (fun a ha => ⟨by omega, by omega⟩)) (qf_mono f3 (fun a ha => ⟨by omega, by omega⟩))⟩
  · simp only [s74_0, s74_1, s74_4, s74_5, s74_8, s74_11, s74_12, s74_15, s74_16, s74_19, s74_22, s74_23, s74_24, s74_27, s74_30, s74_31, s74_32, s74_35, s74_38, s74_39, s74_40, s74_43, s74_46, s74_47, s74_48, s74_51, s74_54, h1, h2.1, h3.1, o1, o2.1, o3.1, g1, g2, hne, eo, List.length_cons, List.length_nil, Nat.zero_le, Nat.reduceAdd, Nat.reduceLeDiff, Option.bind_some, qx_kn_v, qx_kn_n, Nat.add_zero, Bool.false_eq_true, ↓reduceIte]
  · exact qPu_step (t := 0) w1' f3 (qMt_fr w1'.2.2.2.2 f3 (by omega)) (by omega) (by omega)
  · rw [← a2, ← a3, ← a4, ← a5]
    simp [qx_up_at]
  · exact qS_fr w2 f3 (fun a ha => by omega)
theorem g75 {s u n r q p : Nat} {f mt : Nat → Nat} {g : qSg} (hT : qx_T s) (hU : qx_P u) (hd : u + 2 < s ∨ s + 12 < u) (hp : p < 14) (h : qPu u M n r q f mt) (hS : cS (s + 4) M g) :
    ∃ M', Rs L xs (d + 4) 75 0 [some (.ref (s)), some (.ref (u)), some (.int (nI p))] [] (M) x = some (.inl (none), M', x) ∧ cT s M' ((n, r, q), f, mt, (0, 0, 0, 0), if mt p < 14 then gEnd g else gBeg p g.2.2.1) ∧ qf (qTf s) M M' := by
  obtain ⟨A1, g1, w1, f1⟩ := g73 (L := L) (xs := xs) (d := d + 1) (x := 0) hT hU hd h hS
  obtain ⟨h1, h2, h3⟩ := hT
  have hm : A1.1 (s + 1 + 2) p = qz (mt p) := w1.1.2.2.2.2 p hp
  have hz := qz_n1 (mt p)
  by_cases z : mt p < 14
  · rw [if_pos z]
    have hd : decide (A1.1 (s + 1 + 2) p = -1) = false := by
      rw [hm]
      exact decide_eq_false (by rw [hz]; exact fun y => y z)
    refine ⟨A1, ?_, w1, f1⟩
    simp only [s75_0, s75_1, s75_2, s75_5, s75_6, s75_9, s75_10, s75_13, s75_16, s75_17, s75_20, s75_21, s75_24, h1, h2.1, hU.1, g1, m47 h2 hp, hd, bI_0, List.length_cons, List.length_nil, Nat.zero_le, Nat.reduceAdd, Nat.reduceLeDiff, Option.bind_some, qx_kn_v, qx_kn_n, Nat.add_zero, Bool.false_eq_true, ↓reduceIte]
  · rw [if_neg z]
    have hd : decide (A1.1 (s + 1 + 2) p = -1) = true := by
      rw [hm]
      exact decide_eq_true (by rw [hz]; exact z)
    obtain ⟨A2, g2, w2, f2⟩ := g53 (L := L) (xs := xs) (d := d) (x := 0) (t := s + 4) (p := p) (M := A1) (qa := g.2.2.1) h3 hp
    refine ⟨A2, ?_, ⟨?_, ?_, w2⟩, qf_trans f1 (qf_mono f2 (fun a ha => by unfold qSf at ha; unfold qTf; omega))⟩
    · simp only [s75_0, s75_1, s75_2, s75_5, s75_6, s75_9, s75_10, s75_13, s75_16, s75_17, s75_20, s75_21, s75_24, h1, h2.1, h3.1, hU.1, g1, m47 h2 hp, hd, bI_0, Bool.true_eq_false, g2, List.length_cons, List.length_nil, Nat.zero_le, Nat.reduceAdd, Nat.reduceLeDiff, Option.bind_some, qx_kn_v, qx_kn_n, Nat.add_zero, Bool.false_eq_true, ↓reduceIte]
    · exact qPu_step (t := 0) w1.1 f2 (qMt_fr w1.1.2.2.2.2 f2 (by unfold qSf; omega)) (by unfold qSf; omega) (by unfold qSf; omega)
    · rw [f2.1 s (by unfold qSf; omega)]
      exact w1.2.1
theorem g78 {s st : Nat} {z : Int32} (hT : qx_T s) (hs : M.1 (s + 4) 0 = nI st) (hs4 : st < 4) :
    ∃ M', Rs L xs (d) 78 0 [some (.ref (s)), some (.int (z))] [] (M) x = some (.inl (none), M', x) ∧ M'.1 s 2 = M.1 s 2 + nI (if st = 2 then 1 else 0) ∧ M'.1 s 3 = M.1 s 3 + nI (if st = 3 then 1 else 0) ∧ M'.1 s 4 = M.1 s 4 + z ∧ M'.1 s 5 = M.1 s 5 ∧ qf (fun a => a = s) M M' := by
  obtain ⟨h1, h2, h3⟩ := hT
  have e2 : (nI st = nI 2) = (st = 2) := qi_eq (by omega) (by decide)
  have e3 : (nI st = nI 3) = (st = 3) := qi_eq (by omega) (by decide)
  have hne : ∀ (A : qxM) (k : Nat) (v : Int32), (qx_up A s k v).1 (s + 4) = A.1 (s + 4) := fun A k v => qx_up_ne A k v (by omega)
  refine ⟨qx_up (qx_up (qx_up M s 4 (M.1 s 4 + z)) s 2 (M.1 s 2 + nI (if st = 2 then 1 else 0))) s 3 (M.1 s 3 + nI (if st = 3 then 1 else 0)), ?_, by simp [qx_up_at], by simp [qx_up_at], by simp [qx_up_at], by simp [qx_up_at], qf_trans (qf_up _ _ _ _ rfl) (qf_trans (qf_up _ _ _ _ rfl) (qf_up _ _ _ _ rfl))⟩
  have x2 : (qx_up M s 4 (M.1 s 4 + z)).1 s 2 = M.1 s 2 := by simp [qx_up_at]
  have x3 : ∀ v, (qx_up (qx_up M s 4 (M.1 s 4 + z)) s 2 v).1 s 3 = M.1 s 3 := fun v => by simp [qx_up_at]
  by_cases y2 : st = 2
  · have y3 : ¬ st = 3 := by omega
    rw [if_pos y2, if_neg y3]
    have c2 : (nI st = nI 2) = True := by rw [e2]; exact eq_true y2
    have c3 : (nI st = nI 3) = False := by rw [e3]; exact eq_false y3
    simp only [s78_0, s78_1r, s78_1i, s78_2, s78_5, s78_6, s78_7, s78_10, s78_11r, s78_11i, s78_12, s78_15, s78_16, s78_19, s78_22, s78_23, s78_26, s78_27, s78_30, s78_31, s78_32, s78_35, s78_36r, s78_36i, s78_37, s78_40, s78_41, s78_44, s78_47, s78_48, s78_51, s78_52, s78_55, s78_56, s78_57, s78_60, h1, h3.1, hne, hs, c2, c3, x2, x3, List.length_cons, List.length_nil, Nat.zero_le, Nat.reduceAdd, Nat.reduceLeDiff, Option.bind_some, qx_kn_v, qx_kn_n, Nat.add_zero, Bool.false_eq_true, ↓reduceIte]
  · rw [if_neg y2]
    have c2 : (nI st = nI 2) = False := by rw [e2]; exact eq_false y2
    by_cases y3 : st = 3
    · rw [if_pos y3]
      have c3 : (nI st = nI 3) = True := by rw [e3]; exact eq_true y3
      simp only [s78_0, s78_1r, s78_1i, s78_2, s78_5, s78_6, s78_7, s78_10, s78_11r, s78_11i, s78_12, s78_15, s78_16, s78_19, s78_22, s78_23, s78_26, s78_27, s78_30, s78_31, s78_32, s78_35, s78_36r, s78_36i, s78_37, s78_40, s78_41, s78_44, s78_47, s78_48, s78_51, s78_52, s78_55, s78_56, s78_57, s78_60, h1, h3.1, hne, hs, c2, c3, x2, x3, List.length_cons, List.length_nil, Nat.zero_le, Nat.reduceAdd, Nat.reduceLeDiff, Option.bind_some, qx_kn_v, qx_kn_n, Nat.add_zero, Bool.false_eq_true, ↓reduceIte]
    · rw [if_neg y3]
      have c3 : (nI st = nI 3) = False := by rw [e3]; exact eq_false y3
      simp only [s78_0, s78_1r, s78_1i, s78_2, s78_5, s78_6, s78_7, s78_10, s78_11r, s78_11i, s78_12, s78_15, s78_16, s78_19, s78_22, s78_23, s78_26, s78_27, s78_30, s78_31, s78_32, s78_35, s78_36r, s78_36i, s78_37, s78_40, s78_41, s78_44, s78_47, s78_48, s78_51, s78_52, s78_55, s78_56, s78_57, s78_60, h1, h3.1, hne, hs, c2, c3, x2, x3, List.length_cons, List.length_nil, Nat.zero_le, Nat.reduceAdd, Nat.reduceLeDiff, Option.bind_some, qx_kn_v, qx_kn_n, Nat.add_zero, Bool.false_eq_true, ↓reduceIte]
theorem g76 {s n r q : Nat} {f mt mt' : Nat → Nat} {a b c l : Int32} {g g' : qSg} {z : Nat} (hT : qx_T s) (h : cT s M ((n, r, q), f, mt, (a, b, c, l), g)) (hbm : g.1.2.2.2 ≤ g'.1.2.2.2) (hs4 : g'.1.1 < 4)
    (hA : ∀ (L : Nat) (xs : Nat → Int32) (d x t u : Nat) (M : qxM), qx_Z t → qx_P u → u + 2 < t → qPu u M n r q f mt → cS t M g → ∃ M', Rs L xs (d + 4) 64 0 [some (.ref (t)), some (.ref (u)), none, none] [] (M) x = some (.inl (some (.int (nI z))), M', x) ∧ cS t M' g' ∧ qMt u M' mt' ∧ qf (fun a => qSf t a ∨ a = u + 2) M M') :
    ∃ M', Rs L xs (d + 5) 76 0 [some (.ref (s)), none, none] [] (M) x = some (.inl (some (.int (nI z))), M', x) ∧ cT s M' ((n, r, q), f, mt', (a + nI (if g'.1.1 = 2 then 1 else 0), b + nI (if g'.1.1 = 3 then 1 else 0), c + nI (g'.1.2.2.2 - g.1.2.2.2), l), g') ∧ qf (qTf s) M M' := by
  obtain ⟨h1, h2, h3⟩ := hT
  obtain ⟨a1, ⟨a2, a3, a4, a5⟩, a6⟩ := h
  obtain ⟨A1, g1, w1, m1, f1⟩ := hA L xs d 0 (s + 4) (s + 1) M h3 h2 (by omega) a1 a6
  obtain ⟨A2, g2, b2, b3, b4, b5, f2⟩ := g78 (L := L) (xs := xs) (d := d + 4) (x := 0) (M := A1) (z := nI (g'.1.2.2.2 - g.1.2.2.2)) ⟨h1, h2, h3⟩ w1.1.1 hs4
  have e0 : M.1 (s + 4) 3 = nI g.1.2.2.2 := a6.1.2.2.2.1
  have e1 : A1.1 (s + 4) 3 = nI g'.1.2.2.2 := w1.1.2.2.2.1
  have es : A1.1 s = M.1 s := f1.1 s (by unfold qSf; omega)
  refine ⟨A2, ?_, ⟨?_, ⟨?_, ?_, ?_, ?_⟩, qS_fr w1 f2 (fun a ha => by omega)⟩, qf_trans (qf_mono f1 (fun a ha => by unfold qSf at ha; unfold qTf; omega)) (qf_mono f2 (fun a ha => by unfold qTf; omega))⟩
  · simp only [s76_0, s76_1, s76_4, s76_7i, s76_7r, s76_7n, s76_8, s76_9, s76_12, s76_13, s76_16, s76_19i, s76_19r, s76_19n, s76_20, s76_21, s76_22, s76_25, s76_28, s76_29, s76_30, s76_33, s76_34, h1, h2.1, h3.1, g1, g2, e0, e1, pk_sub hbm, List.length_cons, List.length_nil, Nat.zero_le, Nat.reduceAdd, Nat.reduceLeDiff, Option.bind_some, qx_kn_v, qx_kn_n, Nat.add_zero, Bool.false_eq_true, ↓reduceIte]
  · have w1' := qPu_step (t := s + 4) a1 f1 m1 (by unfold qSf; omega) (by unfold qSf; omega)
    exact qPu_step (t := 0) w1' f2 (qMt_fr w1'.2.2.2.2 f2 (by omega)) (by omega) (by omega)
  · rw [b2, es, a2]
  · rw [b3, es, a3]
  · rw [b4, es, a4]
  · rw [b5, es, a5]
theorem g77 {s n r q k : Nat} {f mt mt' : Nat → Nat} {a b c l : Int32} {g g' : qSg} (hT : qx_T s) (h : cT s M ((n, r, q), f, mt, (a, b, c, l), g)) (hk : k < 1000) (hbm : g.1.2.2.2 ≤ g'.1.2.2.2) (hsp : g'.1.2.2.1 = g.1.2.2.1 + k) (hs4 : g'.1.1 < 4) (hR : qRun n r q f mt g k mt' g') :
    ∃ M', Rs L xs (d + 5) 77 0 [some (.ref (s)), none, none, none] [] (M) x = some (.inl (some (.int (nI k))), M', x) ∧ cT s M' ((n, r, q), f, mt', (a + nI (if g'.1.1 = 2 then 1 else 0), b + nI (if g'.1.1 = 3 then 1 else 0), c + nI (g'.1.2.2.2 - g.1.2.2.2), l), g') ∧ qf (qTf s) M M' := by
  have hT0 := hT
  obtain ⟨h1, h2, h3⟩ := hT
  obtain ⟨a1, ⟨a2, a3, a4, a5⟩, a6⟩ := h
  obtain ⟨A1, g1, w1, m1, f1⟩ := hR.1 L xs d x s M (nI g.1.2.2.2) (nI g.1.2.2.1) 0 hT0 a1 a6 (by omega)
  obtain ⟨A2, g2, b2, b3, b4, b5, f2⟩ := g78 (L := L) (xs := xs) (d := d + 4) (x := 0) (M := A1) (z := nI (g'.1.2.2.2 - g.1.2.2.2)) hT0 w1.1.1 hs4
  have e0 : M.1 (s + 4) 3 = nI g.1.2.2.2 := a6.1.2.2.2.1
  have e1 : A1.1 (s + 4) 3 = nI g'.1.2.2.2 := w1.1.2.2.2.1
  have e2 : M.1 (s + 4) 2 = nI g.1.2.2.1 := a6.1.2.2.1
  have e3 : A2.1 (s + 4) 2 = nI g'.1.2.2.1 := by
    rw [f2.1 _ (by omega)]
    exact w1.1.2.2.1
  have es : A1.1 s = M.1 s := f1.1 s (by omega)
  have hk2 : nI g'.1.2.2.1 - nI g.1.2.2.1 = nI k := by
    rw [pk_sub (by omega)]
    congr 1
    omega
  refine ⟨A2, ?_, ⟨?_, ⟨?_, ?_, ?_, ?_⟩, qS_fr w1 f2 (fun a ha => by omega)⟩, qf_trans (qf_mono f1 (fun a ha => by unfold qTf; omega)) (qf_mono f2 (fun a ha => by unfold qTf; omega))⟩
  · simp only [s77_0, s77_1, s77_4, s77_7i, s77_7r, s77_7n, s77_8, s77_9, s77_12, s77_15i, s77_15r, s77_15n, s77_16, s77_17i, s77_17r, s77_17n, h1, h3.1, e0, e2]
    rw [g1]
    simp only [s77_54, s77_55, s77_56, s77_59, s77_62, s77_63, s77_64, s77_67, s77_68, s77_71, s77_74, s77_75, s77_76, h1, h3.1, e1, pk_sub hbm, g2, e3, hk2, List.length_cons, List.length_nil, Nat.zero_le, Nat.reduceAdd, Nat.reduceLeDiff, Option.bind_some, qx_kn_v, qx_kn_n, Nat.add_zero, Bool.false_eq_true, ↓reduceIte]
  · have w1' := qPu_step (t := s + 4) a1 f1 m1 (by omega) (by omega)
    exact qPu_step (t := 0) w1' f2 (qMt_fr w1'.2.2.2.2 f2 (by omega)) (by omega) (by omega)
  · rw [b2, es, a2]
  · rw [b3, es, a3]
  · rw [b4, es, a4]
  · rw [b5, es, a5]
end QL
