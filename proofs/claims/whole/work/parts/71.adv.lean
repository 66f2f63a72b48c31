/-! A step of the search, of the class and of the Model at once. -/
abbrev qSg : Type := (Nat × Nat × Nat × Nat) × (Nat × Nat × Nat × Nat × Nat) × (Nat → Nat) × (Nat → Nat) × (Nat → Nat) × (Nat → Nat) × (Nat → Nat) × (Nat → List Nat)
def cS (t : Nat) (M : qxM) (g : qSg) : Prop := qS t M g.1.1 g.1.2.1 g.1.2.2.1 g.1.2.2.2 g.2.1.1 g.2.1.2.1 g.2.1.2.2.1 g.2.1.2.2.2.1 g.2.1.2.2.2.2 g.2.2.1 g.2.2.2.1 g.2.2.2.2.1 g.2.2.2.2.2.1 g.2.2.2.2.2.2.1 g.2.2.2.2.2.2.2
def mS (M : qxM) (g : qSg) : Prop := nS M g.1.1 g.1.2.1 g.1.2.2.1 g.1.2.2.2 g.2.1.1 g.2.1.2.1 g.2.1.2.2.1 g.2.1.2.2.2.1 g.2.1.2.2.2.2 g.2.2.1 g.2.2.2.1 g.2.2.2.2.1 g.2.2.2.2.2.1 g.2.2.2.2.2.2.1 g.2.2.2.2.2.2.2
def gO (n : Nat) (mt : Nat → Nat) (g : qSg) (tm : Nat → Nat) : Prop := qg_ok n g.1.2.1 mt g.2.1.1 g.2.1.2.1 g.2.1.2.2.1 g.2.1.2.2.2.1 g.2.1.2.2.2.2 g.2.2.1 tm g.2.2.2.1 g.2.2.2.2.1 g.2.2.2.2.2.2.2
def gmu (g : qSg) : Nat := 15 * (14 - g.2.1.2.2.1) + (14 - g.2.1.2.2.2.2)
/-- the pupils: of the class, of the Model; what holds of them -/
def qPu (u : Nat) (M : qxM) (n r q : Nat) (f mt : Nat → Nat) : Prop := M.1 u 0 = nI n ∧ M.1 u 1 = nI r ∧ M.1 u 2 = nI q ∧ (∀ p, p < 14 → M.1 (u + 1) p = nI (f p)) ∧ qMt u M mt
def nPu (M : qxM) (n r q : Nat) (f mt : Nat → Nat) : Prop := M.1 401 0 = nI n ∧ M.1 401 1 = nI r ∧ M.1 401 2 = nI q ∧ (∀ p, p < 14 → M.1 401 (7 + p) = nI (f p)) ∧ nMt M mt
def qp_ok (n r q : Nat) (f mt : Nat → Nat) : Prop := n ≤ 14 ∧ r ≤ 2 ∧ q < 16384 ∧ (∀ p, p < 14 → f p < 2 ^ n ∧ (f p).testBit p = false) ∧ (∀ a b, a < 14 → b < 14 → (f a).testBit b = (f b).testBit a) ∧ qm_ok n mt
section QL
variable {L : Nat} {xs : Nat → Int32} {d x : Nat} {t u rt n r q : Nat} {f mt : Nat → Nat} {st sp bm ou inn qb e as : Nat} {qa bs lk nr fr : Nat → Nat} {wy : Nat → List Nat} {M : qxM}
theorem qp_f14 (hp : qp_ok n r q f mt) {p : Nat} (h : p < 14) : f p < 16384 := by
  have h1 := (hp.2.2.2.1 p h).1
  have h14 : 2 ^ n ≤ 2 ^ 14 := Nat.pow_le_pow_right (by decide) hp.1
  omega
theorem g64p (hZ : qx_Z t) (hP : qx_P u) (hut : u + 2 < t) (hp : qp_ok n r q f mt) (hu : qPu u M n r q f mt) (hS : qS t M st rt sp bm ou inn qb e as qa bs lk nr fr wy) (hqe : qb < e) (he : e ≤ 14) (ha : as ≤ 14) (hv : qa qb < 14) :
    ∃ M', Rs L xs (d + 4) 64 0 [some (.ref t), some (.ref u), none, none] [] M x = Rs L xs (d + 4) 64 22 [some (.ref t), some (.ref u), some (.int (nI (qa qb))), some (.int (qz (qs_nx (qp_al r q (f (qa qb)) (qa qb)) (14 - as) as)))] [] M' x ∧
      qS t M' st rt (sp + 1) bm ou inn qb e as qa bs lk nr fr wy ∧ qf (fun a => a = t) M M' := by
  obtain ⟨u0, u1, u2, u3, u4⟩ := hu
  have hS0 := hS
  obtain ⟨⟨t0, t1, t2, t3, t4, t5, t6, t7, t8⟩, s2, s3⟩ := hS
  have h0 := m61 (L := L) (xs := xs) (d := d + 2) (x := 0) (i := 0) hZ t6 t7 (by omega) he (show 0 < e - qb by omega)
  have hq0 : M.1 (t + 1) (qb + 0) = nI (qa qb) := s2 qb hqe
  rw [hq0] at h0
  have h1 := g63 (L := L) (xs := xs) (d := d) (x := 0) (f := f) hZ hP s2 t6 t7 t8 hqe he ha hv hp.2.1 u1 u2 hp.2.2.1 (u3 _ hv) (qp_f14 hp hv)
  refine ⟨_, ?_, qS_t (st' := st) (rt' := rt) (sp' := sp + 1) (bm' := bm) (ou' := ou) (inn' := inn) (qb' := qb) (e' := e) (as' := as) (k := 2) (v := nI (sp + 1)) hS0 ?_ (Nat.le_refl _), qf_up _ _ _ _ rfl⟩
  · simp only [s64_0, s64_1, s64_2, s64_5i, s64_5r, s64_5n, s64_6, s64_7, s64_8, s64_11i, s64_11r, s64_11n, s64_12, s64_13r, s64_13i, s64_14, s64_17, s64_18, s64_19, hZ.1, hP.1, h0, h1, t2, nI_add, List.length_cons, List.length_nil, Nat.zero_le, Nat.reduceAdd, Nat.reduceLeDiff, Option.bind_some, qx_kn_v, qx_kn_n, Nat.add_zero, ↓reduceIte]
  · unfold qS1
    simp [qx_up_at, t0, t1, t3, t4, t5, t6, t7, t8]
theorem g64q {v w : Nat} (hZ : qx_Z t) (hS : qS t M st rt sp bm ou inn qb e as qa bs lk nr fr wy) (hw : w < 14) :
    ∃ M', Rs L xs (d + 4) 64 22 [some (.ref t), some (.ref u), some (.int (nI v)), some (.int (nI w))] [] M x = Rs L xs (d + 4) 64 39 [some (.ref t), some (.ref u), some (.int (nI v)), some (.int (nI w))] [] M' x ∧
      qS t M' st rt sp bm ou inn qb e (w + 1) qa bs lk nr fr wy ∧ qf (fun a => a = t) M M' := by
  have hS0 := hS
  obtain ⟨⟨t0, t1, t2, t3, t4, t5, t6, t7, t8⟩, s2, s3⟩ := hS
  have h2 := qi_n1 (show w < 2 ^ 31 by omega)
  refine ⟨_, ?_, qS_t (st' := st) (rt' := rt) (sp' := sp) (bm' := bm) (ou' := ou) (inn' := inn) (qb' := qb) (e' := e) (as' := w + 1) (k := 8) (v := nI (w + 1)) hS0 ?_ (Nat.le_refl _), qf_up _ _ _ _ rfl⟩
  · simp only [s64_22, s64_23, s64_24, s64_27, s64_28, s64_31, s64_32, s64_33, s64_34, s64_35, s64_36, hZ.1, h2, nI_add, List.length_cons, List.length_nil, Nat.zero_le, Nat.reduceAdd, Nat.reduceLeDiff, Option.bind_some, qx_kn_v, qx_kn_n, Nat.add_zero, ↓reduceIte]
  · unfold qS1
    simp [qx_up_at, t0, t1, t2, t3, t4, t5, t6, t7]
theorem g249p (hp : qp_ok n r q f mt) (hu : nPu M n r q f mt) (hS : nS M st rt sp bm ou inn qb e as qa bs lk nr fr wy) (hqe : qb < e) (ha : as ≤ 14) (hv : qa qb < 14) :
    ∃ M', Rs L xs (d + 5) 249 0 [some (.ref 400), none, none] [] M x = Rs L xs (d + 5) 249 24 [some (.ref 400), some (.int (nI (qa qb))), some (.int (qz (qs_nx (qp_al r q (f (qa qb)) (qa qb)) (14 - as) as)))] [] M' x ∧
      nS M' st rt (sp + 1) bm ou inn qb e as qa bs lk nr fr wy ∧ mf (fun j => j = 37) M M' := by
  obtain ⟨k1, k2, k3⟩ := qx_m400
  obtain ⟨u0, u1, u2, u3, u4⟩ := hu
  have hS0 := hS
  obtain ⟨⟨t0, t1, t2, t3, t4, t5⟩, s2, s3⟩ := hS
  have f1 : mf (fun j => j = 37) M (qx_up M 401 37 (nI (sp + 1))) := mf_up _ _ _ rfl
  have hq0 : M.1 401 (41 + (qb - qb)) = nI (qa qb) := s2 qb (Nat.le_refl _) hqe
  rw [Nat.sub_self] at hq0
  have hq1 : (qx_up M 401 37 (nI (sp + 1))).1 401 41 = nI (qa qb) := by rw [f1.2 _ (by omega)]; exact hq0
  have h1 := g240 (L := L) (xs := xs) (d := d) (x := 0) (n := n) (f := f) hv hq1 (by rw [f1.2 _ (by omega), t4]) ha (by rw [f1.2 _ (by omega), u0]) hp.1 (by rw [f1.2 _ (by omega), u3 _ hv]) (hp.2.2.2.1 _ hv).1 (by rw [f1.2 _ (by omega), u1]) hp.2.1 (by rw [f1.2 _ (by omega), u2]) hp.2.2.1
  refine ⟨_, ?_, nS_t (ql' := 0) (qb' := 0) hS0 f1 (by omega) ⟨?_, ?_, ?_, ?_, ?_, ?_⟩, f1⟩
  · simp only [s249_0, s249_1, s249_4, s249_6, s249_7, s249_8, s249_9, s249_10, s249_11, s249_12, s249_15, s249_17, s249_18i, s249_18r, s249_18n, s249_19, s249_20, s249_23i, s249_23r, s249_23n, k1, k2, k3, t2, nI_add, hq1, h1, (qn_c (37) (by omega)).1, (qn_c (37) (by omega)).2, (qn_c (41) (by omega)).1, (qn_c (41) (by omega)).2, List.length_cons, List.length_nil, Nat.zero_le, Nat.reduceAdd, Nat.reduceLeDiff, Option.bind_some, qx_kn_v, qx_kn_n, Nat.add_zero, ↓reduceIte]
  · rw [f1.2 _ (by omega), t0]
  · rw [f1.2 _ (by omega), t1]
  · rw [qx_up_at, if_pos ⟨rfl, rfl⟩]
  · rw [f1.2 _ (by omega), t3]
  · rw [f1.2 _ (by omega), t4]
  · rw [f1.2 _ (by omega), t5]
theorem g249q {v w : Nat} (hS : nS M st rt sp bm ou inn qb e as qa bs lk nr fr wy) (hw : w < 14) :
    ∃ M', Rs L xs (d + 5) 249 24 [some (.ref 400), some (.int (nI v)), some (.int (nI w))] [] M x = Rs L xs (d + 5) 249 44 [some (.ref 400), some (.int (nI v)), some (.int (nI w))] [] M' x ∧
      nS M' st rt sp bm ou inn qb e (w + 1) qa bs lk nr fr wy ∧ mf (fun j => j = 39) M M' := by
  obtain ⟨k1, k2, k3⟩ := qx_m400
  have hS0 := hS
  obtain ⟨⟨t0, t1, t2, t3, t4, t5⟩, s2, s3⟩ := hS
  have f1 : mf (fun j => j = 39) M (qx_up M 401 39 (nI (w + 1))) := mf_up _ _ _ rfl
  have h2 := qi_n1 (show w < 2 ^ 31 by omega)
  refine ⟨_, ?_, nS_t (ql' := 0) (qb' := 0) hS0 f1 (by omega) ⟨?_, ?_, ?_, ?_, ?_, ?_⟩, f1⟩
  · simp only [s249_24, s249_25, s249_26, s249_29, s249_30, s249_33, s249_34, s249_35, s249_38, s249_40, s249_41, s249_42, s249_43, k1, k2, k3, h2, nI_add, (qn_c (39) (by omega)).1, (qn_c (39) (by omega)).2, List.length_cons, List.length_nil, Nat.zero_le, Nat.reduceAdd, Nat.reduceLeDiff, Option.bind_some, qx_kn_v, qx_kn_n, Nat.add_zero, ↓reduceIte]
  · rw [f1.2 _ (by omega), t0]
  · rw [f1.2 _ (by omega), t1]
  · rw [f1.2 _ (by omega), t2]
  · rw [f1.2 _ (by omega), t3]
  · rw [qx_up_at, if_pos ⟨rfl, rfl⟩]
  · rw [f1.2 _ (by omega), t5]
end QL
