/-! most, isMost, deficit, loose, barrier, rest, oddSets, proof, mostWithout. -/
section QL
variable {L : Nat} {xs : Nat → Int32} {d x : Nat}
theorem j116 {M : qxM} {B : Nat} (hR : qREL M) (hT0 : qTab B M) (hB : B < 90000) : qPairG Value.int B L xs (d + 40) 116 [some (.ref 10)] 278 [some (.ref 400)] ke0 M := by
  obtain ⟨k1, k2, k3⟩ := qx_m400
  rcases qREL_cmp hR with ⟨b1, b2, b3, b4⟩ | ⟨b1, b2, n, r, q, f, mt, s1, s2, s3, s4, st, rt, sp, bm, ou, inn, qb, e, as, qa, bs, lk, nr, fr, wy, hp, hn1, hT, hou, hinn, he14, hst4, hu, ⟨a1, a2, a3, a4⟩, hS, hm, ⟨v1, v2, v3, v4⟩, h35, hN⟩
  · refine qPairG_of hT0 hR 1 0 (by decide) ?_ ?_
    · rw [if_neg (by decide)]
      simp only [s116_0, s116_1, qx_m10, a159t b1, List.length_cons, List.length_nil, Nat.zero_le, Nat.reduceAdd, Nat.reduceLeDiff, Option.bind_some, qx_kn_v, qx_kn_n, Nat.add_zero, Bool.false_eq_true, ↓reduceIte]
      exact qx_kn_t rfl rfl rfl
    · intro o
      refine ⟨nI 0, ?_, fun h => absurd h (by decide)⟩
      have h1 := fun (d : Nat) => b263a (L := L) (xs := xs) (d := d) (x := 0) (M := (M.1, o)) b2
      simp only [s278_0, s278_1, s278_4, s278_7, s278_8, s278_11, s278_14, s278_15, k1, h1, qbt, qbf, qi_z0, true_or, List.length_cons, List.length_nil, Nat.zero_le, Nat.reduceAdd, Nat.reduceLeDiff, Option.bind_some, qx_kn_v, qx_kn_n, Nat.add_zero, Bool.false_eq_true, ↓reduceIte]
  · have hn14 : n ≤ 14 := hp.1
    have hn0 : M.1 101 0 = nI n := hu.1
    have hneed := fun (d x : Nat) => a159 (L := L) (xs := xs) (d := d) (x := x) b1
    have hmay := fun (o : (Nat → Int64) × (Nat → UInt64)) (d : Nat) => b263c (L := L) (xs := xs) (d := d) (x := 0) (M := (M.1, o)) b2
    have hZ : qx_Z 104 := qx_T100.2.2
    have hP : qx_P 101 := qx_T100.2.1
    have hst0 : M.1 104 0 = nI st := hS.1.1
    have hst9 : ∀ {st : Nat}, st ≤ B + 1 → st < 100000 := fun h => by omega
    have hall : 2 ^ n - 1 < 16384 := by have := n14 hn14; have := Nat.two_pow_pos n; omega
    have ha := qal_ok hp hp.2.1
    obtain ⟨M1, st1, g1, s1, t1, f1⟩ := a168 (L := L) (xs := xs) (d := d + 36) (x := 0) hp hu hT0 hB
    obtain ⟨M2, g2, t2, f2⟩ := m1 (L := L) (xs := xs) (d := d + 21) (x := 0) ha (hst9 s1) hall t1
    have F := qf_trans f1 (qF_m f2)
    refine qPairG_mem hR (nI (mF (qal r q f) (2 ^ n - 1))) ?_ F (qTab_s ha s1 t2) (fun o => ?_)
    · simp only [s116_0, s116_1, s116_4, s116_5, s116_8, s116_11, qx_m10, hneed, g1, g2, List.length_cons, List.length_nil, Nat.zero_le, Nat.reduceAdd, Nat.reduceLeDiff, Option.bind_some, qx_kn_v, qx_kn_n, Nat.add_zero, Bool.false_eq_true, ↓reduceIte]
    · obtain ⟨M3, g3, l3, f3⟩ := m271 (L := L) (xs := xs) (d := d + 35) (x := 0) hp (al := qal r q f) (fun p _ => rfl) ha (nPu_F hm F o (nI 0))
      have h263 := fun d => mo263 (L := L) (xs := xs) b2 F o d
      refine ⟨M3, ?_, f3⟩
      simp only [s278_0, s278_1, s278_4, s278_7, s278_8, s278_11, s278_14, s278_15, k1, h263, qbt, g3, List.length_cons, List.length_nil, Nat.zero_le, Nat.reduceAdd, Nat.reduceLeDiff, Option.bind_some, qx_kn_v, qx_kn_n, Nat.add_zero, Bool.false_eq_true, ↓reduceIte]
theorem j117 {M : qxM} {B : Nat} (hR : qREL M) (hT0 : qTab B M) (hB : B < 90000) : qPairG Value.int B L xs (d + 40) 117 [some (.ref 10)] 279 [some (.ref 400)] ke0 M := by
  obtain ⟨k1, k2, k3⟩ := qx_m400
  rcases qREL_cmp hR with ⟨b1, b2, b3, b4⟩ | ⟨b1, b2, n, r, q, f, mt, s1, s2, s3, s4, st, rt, sp, bm, ou, inn, qb, e, as, qa, bs, lk, nr, fr, wy, hp, hn1, hT, hou, hinn, he14, hst4, hu, ⟨a1, a2, a3, a4⟩, hS, hm, ⟨v1, v2, v3, v4⟩, h35, hN⟩
  · refine qPairG_of hT0 hR 1 0 (by decide) ?_ ?_
    · rw [if_neg (by decide)]
      simp only [s117_0, s117_1, qx_m10, a159t b1, List.length_cons, List.length_nil, Nat.zero_le, Nat.reduceAdd, Nat.reduceLeDiff, Option.bind_some, qx_kn_v, qx_kn_n, Nat.add_zero, Bool.false_eq_true, ↓reduceIte]
      exact qx_kn_t rfl rfl rfl
    · intro o
      refine ⟨nI 0, ?_, fun h => absurd h (by decide)⟩
      have h1 := fun (d : Nat) => b263a (L := L) (xs := xs) (d := d) (x := 0) (M := (M.1, o)) b2
      simp only [s279_0, s279_1, s279_4, s279_7, s279_8, s279_11, s279_12, s279_15, s279_18, s279_19, s279_22, s279_23, k1, h1, qbt, qbf, qi_z0, true_or, List.length_cons, List.length_nil, Nat.zero_le, Nat.reduceAdd, Nat.reduceLeDiff, Option.bind_some, qx_kn_v, qx_kn_n, Nat.add_zero, Bool.false_eq_true, ↓reduceIte]
  · have hn14 : n ≤ 14 := hp.1
    have hn0 : M.1 101 0 = nI n := hu.1
    have hneed := fun (d x : Nat) => a159 (L := L) (xs := xs) (d := d) (x := x) b1
    have hmay := fun (o : (Nat → Int64) × (Nat → UInt64)) (d : Nat) => b263c (L := L) (xs := xs) (d := d) (x := 0) (M := (M.1, o)) b2
    have hZ : qx_Z 104 := qx_T100.2.2
    have hP : qx_P 101 := qx_T100.2.1
    have hst0 : M.1 104 0 = nI st := hS.1.1
    have hst9 : ∀ {st : Nat}, st ≤ B + 1 → st < 100000 := fun h => by omega
    have hall : 2 ^ n - 1 < 16384 := by have := n14 hn14; have := Nat.two_pow_pos n; omega
    have ha := qal_ok hp hp.2.1
    have h48 := g48 (L := L) (xs := xs) (d := d + 37) (x := 0) hP hn14 hn0 hu.2.2.2.2
    obtain ⟨M1, st1, g1, s1, t1, f1⟩ := a168 (L := L) (xs := xs) (d := d + 36) (x := 0) hp hu hT0 hB
    obtain ⟨M2, g2, t2, f2⟩ := m1 (L := L) (xs := xs) (d := d + 21) (x := 0) ha (hst9 s1) hall t1
    have F := qf_trans f1 (qF_m f2)
    have hF7 := F_7 (al := qal r q f) hall
    have hnp : qm_np n mt ≤ 14 := by
      unfold qm_np
      have := fb_ct_le (fun p => decide (mt p < 14)) n
      omega
    have e1 : (nI (qm_np n mt) = nI (mF (qal r q f) (2 ^ n - 1))) = (qm_np n mt = mF (qal r q f) (2 ^ n - 1)) := qi_eq (by omega) (by omega)
    have e2 : (nI (mF (qal r q f) (2 ^ n - 1)) = nI (qm_np n mt)) = (qm_np n mt = mF (qal r q f) (2 ^ n - 1)) := by
      rw [qi_eq (by omega) (by omega)]
      exact propext ⟨Eq.symm, Eq.symm⟩
    refine qPairG_mem hR (bI (decide (qm_np n mt = mF (qal r q f) (2 ^ n - 1)))) ?_ F (qTab_s ha s1 t2) (fun o => ?_)
    · by_cases y : qm_np n mt = mF (qal r q f) (2 ^ n - 1)
      · simp only [s117_0, s117_1, s117_4, s117_5, s117_8, s117_11, s117_14, s117_15, s117_18, s117_21, s117_24, s117_25, s117_28, s117_29, qx_m10, qx_T100.1, hP.1, hneed, h48, g1, g2, e1, y, decide_true, qx_z1, List.length_cons, List.length_nil, Nat.zero_le, Nat.reduceAdd, Nat.reduceLeDiff, Option.bind_some, qx_kn_v, qx_kn_n, Nat.add_zero, Bool.false_eq_true, ↓reduceIte]
        rfl
      · simp only [s117_0, s117_1, s117_4, s117_5, s117_8, s117_11, s117_14, s117_15, s117_18, s117_21, s117_24, s117_25, s117_28, s117_29, qx_m10, qx_T100.1, hP.1, hneed, h48, g1, g2, e1, y, decide_false, qx_z0, List.length_cons, List.length_nil, Nat.zero_le, Nat.reduceAdd, Nat.reduceLeDiff, Option.bind_some, qx_kn_v, qx_kn_n, Nat.add_zero, Bool.false_eq_true, ↓reduceIte]
        rfl
    · have hu2 := nPu_F hm F o (nI 0)
      obtain ⟨M3, g3, l3, f3⟩ := m271 (L := L) (xs := xs) (d := d + 35) (x := 0) hp (al := qal r q f) (fun p _ => rfl) ha hu2
      have h224 := fun d => g224 (L := L) (xs := xs) (d := d) (x := 0) (M := M3) (n := n) (mt := mt) hn14 (by rw [f3.1 401 (by unfold qTb; omega)]; exact hu2.1) (fun p hp => by rw [f3.1 401 (by unfold qTb; omega)]; exact hu2.2.2.2.2 p hp)
      have h263 := fun d => mo263 (L := L) (xs := xs) b2 F o d
      refine ⟨M3, ?_, f3⟩
      by_cases y : qm_np n mt = mF (qal r q f) (2 ^ n - 1)
      · simp only [s279_0, s279_1, s279_4, s279_7, s279_8, s279_11, s279_12, s279_15, s279_18, s279_19, s279_22, s279_23, k1, h263, qbt, g3, h224, e2, y, decide_true, qx_z1, List.length_cons, List.length_nil, Nat.zero_le, Nat.reduceAdd, Nat.reduceLeDiff, Option.bind_some, qx_kn_v, qx_kn_n, Nat.add_zero, Bool.false_eq_true, ↓reduceIte]
        rfl
      · simp only [s279_0, s279_1, s279_4, s279_7, s279_8, s279_11, s279_12, s279_15, s279_18, s279_19, s279_22, s279_23, k1, h263, qbt, g3, h224, e2, y, decide_false, qx_z0, List.length_cons, List.length_nil, Nat.zero_le, Nat.reduceAdd, Nat.reduceLeDiff, Option.bind_some, qx_kn_v, qx_kn_n, Nat.add_zero, Bool.false_eq_true, ↓reduceIte]
        rfl
theorem j118 {M : qxM} {B : Nat} (hR : qREL M) (hT0 : qTab B M) (hB : B < 90000) : qPairG Value.int B L xs (d + 40) 118 [some (.ref 10)] 280 [some (.ref 400)] ke0 M := by
  obtain ⟨k1, k2, k3⟩ := qx_m400
  rcases qREL_cmp hR with ⟨b1, b2, b3, b4⟩ | ⟨b1, b2, n, r, q, f, mt, s1, s2, s3, s4, st, rt, sp, bm, ou, inn, qb, e, as, qa, bs, lk, nr, fr, wy, hp, hn1, hT, hou, hinn, he14, hst4, hu, ⟨a1, a2, a3, a4⟩, hS, hm, ⟨v1, v2, v3, v4⟩, h35, hN⟩
  · refine qPairG_of hT0 hR 1 0 (by decide) ?_ ?_
    · rw [if_neg (by decide)]
      simp only [s118_0, s118_1, qx_m10, a159t b1, List.length_cons, List.length_nil, Nat.zero_le, Nat.reduceAdd, Nat.reduceLeDiff, Option.bind_some, qx_kn_v, qx_kn_n, Nat.add_zero, Bool.false_eq_true, ↓reduceIte]
      exact qx_kn_t rfl rfl rfl
    · intro o
      refine ⟨nI 0, ?_, fun h => absurd h (by decide)⟩
      have h1 := fun (d : Nat) => b263a (L := L) (xs := xs) (d := d) (x := 0) (M := (M.1, o)) b2
      simp only [s280_0, s280_1, s280_4, s280_7, s280_8, s280_11, s280_12, s280_13, s280_14, s280_15, s280_18, s280_19, s280_20, s280_23, s280_24, k1, h1, qbt, qbf, qi_z0, true_or, List.length_cons, List.length_nil, Nat.zero_le, Nat.reduceAdd, Nat.reduceLeDiff, Option.bind_some, qx_kn_v, qx_kn_n, Nat.add_zero, Bool.false_eq_true, ↓reduceIte]
  · have hn14 : n ≤ 14 := hp.1
    have hn0 : M.1 101 0 = nI n := hu.1
    have hneed := fun (d x : Nat) => a159 (L := L) (xs := xs) (d := d) (x := x) b1
    have hmay := fun (o : (Nat → Int64) × (Nat → UInt64)) (d : Nat) => b263c (L := L) (xs := xs) (d := d) (x := 0) (M := (M.1, o)) b2
    have hZ : qx_Z 104 := qx_T100.2.2
    have hP : qx_P 101 := qx_T100.2.1
    have hst0 : M.1 104 0 = nI st := hS.1.1
    have hst9 : ∀ {st : Nat}, st ≤ B + 1 → st < 100000 := fun h => by omega
    have hall : 2 ^ n - 1 < 16384 := by have := n14 hn14; have := Nat.two_pow_pos n; omega
    have ha := qal_ok hp hp.2.1
    obtain ⟨M1, st1, g1, s1, t1, f1⟩ := a168 (L := L) (xs := xs) (d := d + 36) (x := 0) hp hu hT0 hB
    obtain ⟨M2, g2, t2, f2⟩ := m2 (L := L) (xs := xs) (d := d + 20) (x := 0) ha (hst9 s1) hall t1
    rw [qb_pc_all n (by omega)] at g2
    have F := qf_trans f1 (qF_m f2)
    have hF := F_half (al := qal r q f) hall
    rw [qb_pc_all n (by omega)] at hF
    refine qPairG_mem hR (nI (n - 2 * mF (qal r q f) (2 ^ n - 1))) ?_ F (qTab_s ha s1 t2) (fun o => ?_)
    · simp only [s118_0, s118_1, s118_4, s118_5, s118_8, s118_11, qx_m10, hneed, g1, g2, List.length_cons, List.length_nil, Nat.zero_le, Nat.reduceAdd, Nat.reduceLeDiff, Option.bind_some, qx_kn_v, qx_kn_n, Nat.add_zero, Bool.false_eq_true, ↓reduceIte]
    · have hu2 := nPu_F hm F o (nI 0)
      obtain ⟨M3, g3, l3, f3⟩ := m271 (L := L) (xs := xs) (d := d + 35) (x := 0) hp (al := qal r q f) (fun p _ => rfl) ha hu2
      have h263 := fun d => mo263 (L := L) (xs := xs) b2 F o d
      have hn3 := hu2.1
      refine ⟨M3, ?_, f3⟩
      simp only [s280_0, s280_1, s280_4, s280_7, s280_8, s280_11, s280_12, s280_13, s280_14, s280_15, s280_18, s280_19, s280_20, s280_23, s280_24, k1, k2, k3, h263, qbt, hn3, g3, pk_mul, pk_sub hF, (qn_c (0) (by omega)).1, (qn_c (0) (by omega)).2, List.length_cons, List.length_nil, Nat.zero_le, Nat.reduceAdd, Nat.reduceLeDiff, Option.bind_some, qx_kn_v, qx_kn_n, Nat.add_zero, Bool.false_eq_true, ↓reduceIte]
theorem j119 {M : qxM} {B : Nat} (hR : qREL M) (hT0 : qTab B M) (hB : B < 90000) : qPairG Value.int B L xs (d + 40) 119 [some (.ref 10)] 281 [some (.ref 400)] ke0 M := by
  obtain ⟨k1, k2, k3⟩ := qx_m400
  rcases qREL_cmp hR with ⟨b1, b2, b3, b4⟩ | ⟨b1, b2, n, r, q, f, mt, s1, s2, s3, s4, st, rt, sp, bm, ou, inn, qb, e, as, qa, bs, lk, nr, fr, wy, hp, hn1, hT, hou, hinn, he14, hst4, hu, ⟨a1, a2, a3, a4⟩, hS, hm, ⟨v1, v2, v3, v4⟩, h35, hN⟩
  · refine qPairG_of hT0 hR 1 0 (by decide) ?_ ?_
    · rw [if_neg (by decide)]
      simp only [s119_0, s119_1, qx_m10, a159t b1, List.length_cons, List.length_nil, Nat.zero_le, Nat.reduceAdd, Nat.reduceLeDiff, Option.bind_some, qx_kn_v, qx_kn_n, Nat.add_zero, Bool.false_eq_true, ↓reduceIte]
      exact qx_kn_t rfl rfl rfl
    · intro o
      refine ⟨nI 0, ?_, fun h => absurd h (by decide)⟩
      have h1 := fun (d : Nat) => b263a (L := L) (xs := xs) (d := d) (x := 0) (M := (M.1, o)) b2
      simp only [s281_0, s281_1, s281_4, s281_7, s281_8, s281_11, s281_14, s281_15, k1, h1, qbt, qbf, qi_z0, true_or, List.length_cons, List.length_nil, Nat.zero_le, Nat.reduceAdd, Nat.reduceLeDiff, Option.bind_some, qx_kn_v, qx_kn_n, Nat.add_zero, Bool.false_eq_true, ↓reduceIte]
  · have hn14 : n ≤ 14 := hp.1
    have hn0 : M.1 101 0 = nI n := hu.1
    have hneed := fun (d x : Nat) => a159 (L := L) (xs := xs) (d := d) (x := x) b1
    have hmay := fun (o : (Nat → Int64) × (Nat → UInt64)) (d : Nat) => b263c (L := L) (xs := xs) (d := d) (x := 0) (M := (M.1, o)) b2
    have hZ : qx_Z 104 := qx_T100.2.2
    have hP : qx_P 101 := qx_T100.2.1
    have hst0 : M.1 104 0 = nI st := hS.1.1
    have hst9 : ∀ {st : Nat}, st ≤ B + 1 → st < 100000 := fun h => by omega
    have hall : 2 ^ n - 1 < 16384 := by have := n14 hn14; have := Nat.two_pow_pos n; omega
    have ha := qal_ok hp hp.2.1
    obtain ⟨M1, st1, g1, s1, t1, f1⟩ := a168 (L := L) (xs := xs) (d := d + 36) (x := 0) hp hu hT0 hB
    obtain ⟨M2, g2, t2, f2⟩ := m10 (L := L) (xs := xs) (d := d + 20) (x := 0) ha (hst9 s1) hall t1
    have F := qf_trans f1 (qF_m f2)
    refine qPairG_mem hR (nI (qLo (qal r q f) (2 ^ n - 1))) ?_ F (qTab_s ha s1 t2) (fun o => ?_)
    · simp only [s119_0, s119_1, s119_4, s119_5, s119_8, s119_11, qx_m10, hneed, g1, g2, List.length_cons, List.length_nil, Nat.zero_le, Nat.reduceAdd, Nat.reduceLeDiff, Option.bind_some, qx_kn_v, qx_kn_n, Nat.add_zero, Bool.false_eq_true, ↓reduceIte]
    · obtain ⟨M3, g3, l3, f3⟩ := m273 (L := L) (xs := xs) (d := d + 34) (x := 0) hp (al := qal r q f) (fun p _ => rfl) ha (nPu_F hm F o (nI 0))
      have h263 := fun d => mo263 (L := L) (xs := xs) b2 F o d
      refine ⟨M3, ?_, f3⟩
      simp only [s281_0, s281_1, s281_4, s281_7, s281_8, s281_11, s281_14, s281_15, k1, h263, qbt, g3, List.length_cons, List.length_nil, Nat.zero_le, Nat.reduceAdd, Nat.reduceLeDiff, Option.bind_some, qx_kn_v, qx_kn_n, Nat.add_zero, Bool.false_eq_true, ↓reduceIte]
theorem j120 {M : qxM} {B : Nat} (hR : qREL M) (hT0 : qTab B M) (hB : B < 90000) : qPairG Value.int B L xs (d + 40) 120 [some (.ref 10), none] 282 [some (.ref 400)] ke0 M := by
  obtain ⟨k1, k2, k3⟩ := qx_m400
  rcases qREL_cmp hR with ⟨b1, b2, b3, b4⟩ | ⟨b1, b2, n, r, q, f, mt, s1, s2, s3, s4, st, rt, sp, bm, ou, inn, qb, e, as, qa, bs, lk, nr, fr, wy, hp, hn1, hT, hou, hinn, he14, hst4, hu, ⟨a1, a2, a3, a4⟩, hS, hm, ⟨v1, v2, v3, v4⟩, h35, hN⟩
  · refine qPairG_of hT0 hR 1 0 (by decide) ?_ ?_
    · rw [if_neg (by decide)]
      simp only [s120_0, s120_1, qx_m10, a159t b1, List.length_cons, List.length_nil, Nat.zero_le, Nat.reduceAdd, Nat.reduceLeDiff, Option.bind_some, qx_kn_v, qx_kn_n, Nat.add_zero, Bool.false_eq_true, ↓reduceIte]
      exact qx_kn_t rfl rfl rfl
    · intro o
      refine ⟨nI 0, ?_, fun h => absurd h (by decide)⟩
      have h1 := fun (d : Nat) => b263a (L := L) (xs := xs) (d := d) (x := 0) (M := (M.1, o)) b2
      simp only [s282_0, s282_1, s282_4, s282_7, s282_8, s282_9, s282_12, s282_15, s282_18, s282_19, k1, h1, qbt, qbf, qi_z0, true_or, List.length_cons, List.length_nil, Nat.zero_le, Nat.reduceAdd, Nat.reduceLeDiff, Option.bind_some, qx_kn_v, qx_kn_n, Nat.add_zero, Bool.false_eq_true, ↓reduceIte]
  · have hn14 : n ≤ 14 := hp.1
    have hn0 : M.1 101 0 = nI n := hu.1
    have hneed := fun (d x : Nat) => a159 (L := L) (xs := xs) (d := d) (x := x) b1
    have hmay := fun (o : (Nat → Int64) × (Nat → UInt64)) (d : Nat) => b263c (L := L) (xs := xs) (d := d) (x := 0) (M := (M.1, o)) b2
    have hZ : qx_Z 104 := qx_T100.2.2
    have hP : qx_P 101 := qx_T100.2.1
    have hst0 : M.1 104 0 = nI st := hS.1.1
    have hst9 : ∀ {st : Nat}, st ≤ B + 1 → st < 100000 := fun h => by omega
    have hall : 2 ^ n - 1 < 16384 := by have := n14 hn14; have := Nat.two_pow_pos n; omega
    have ha := qal_ok hp hp.2.1
    obtain ⟨M1, st1, g1, s1, t1, f1⟩ := a168 (L := L) (xs := xs) (d := d + 36) (x := 0) hp hu hT0 hB
    obtain ⟨M2, g2, t2, f2⟩ := m10 (L := L) (xs := xs) (d := d + 20) (x := 0) ha (hst9 s1) hall t1
    have h11 := m11 (L := L) (xs := xs) (d := d + 38) (x := 0) (M := M2) ha (qLo_lt (al := qal r q f) (all := 2 ^ n - 1)) t2.1.1
    have F := qf_trans f1 (qF_m f2)
    refine qPairG_mem hR (nI (qBa (qal r q f) (qLo (qal r q f) (2 ^ n - 1)))) ?_ F (qTab_s ha s1 t2) (fun o => ?_)
    · simp only [s120_0, s120_1, s120_4, s120_5, s120_8i, s120_8r, s120_8n, s120_9, s120_10, s120_11, s120_14, s120_17, qx_m10, hneed, g1, g2, h11, List.length_cons, List.length_nil, Nat.zero_le, Nat.reduceAdd, Nat.reduceLeDiff, Option.bind_some, qx_kn_v, qx_kn_n, Nat.add_zero, Bool.false_eq_true, ↓reduceIte]
    · have hu2 := nPu_F hm F o (nI 0)
      obtain ⟨M3, g3, l3, f3⟩ := m273 (L := L) (xs := xs) (d := d + 34) (x := 0) hp (al := qal r q f) (fun p _ => rfl) ha hu2
      have h274 := m274 (L := L) (xs := xs) (d := d + 38) (x := 0) (M := M3) ha hn14 (by rw [f3.1 401 (by unfold qTb; omega)]; exact hu2.1) (fun p h1 h2 => qal_0 hp hp.2.1 h1 h2) (qLo_lt (al := qal r q f) (all := 2 ^ n - 1)) l3.1
      have h263 := fun d => mo263 (L := L) (xs := xs) b2 F o d
      refine ⟨M3, ?_, f3⟩
      simp only [s282_0, s282_1, s282_4, s282_7, s282_8, s282_9, s282_12, s282_15, s282_18, s282_19, k1, h263, qbt, g3, h274, List.length_cons, List.length_nil, Nat.zero_le, Nat.reduceAdd, Nat.reduceLeDiff, Option.bind_some, qx_kn_v, qx_kn_n, Nat.add_zero, Bool.false_eq_true, ↓reduceIte]
theorem j121 {M : qxM} {B : Nat} (hR : qREL M) (hT0 : qTab B M) (hB : B < 90000) : qPairG Value.int B L xs (d + 40) 121 [some (.ref 10), none, none] 283 [some (.ref 400), none] ke0 M := by
  obtain ⟨k1, k2, k3⟩ := qx_m400
  rcases qREL_cmp hR with ⟨b1, b2, b3, b4⟩ | ⟨b1, b2, n, r, q, f, mt, s1, s2, s3, s4, st, rt, sp, bm, ou, inn, qb, e, as, qa, bs, lk, nr, fr, wy, hp, hn1, hT, hou, hinn, he14, hst4, hu, ⟨a1, a2, a3, a4⟩, hS, hm, ⟨v1, v2, v3, v4⟩, h35, hN⟩
  · refine qPairG_of hT0 hR 1 0 (by decide) ?_ ?_
    · rw [if_neg (by decide)]
      simp only [s121_0, s121_1, qx_m10, a159t b1, List.length_cons, List.length_nil, Nat.zero_le, Nat.reduceAdd, Nat.reduceLeDiff, Option.bind_some, qx_kn_v, qx_kn_n, Nat.add_zero, Bool.false_eq_true, ↓reduceIte]
      exact qx_kn_t rfl rfl rfl
    · intro o
      refine ⟨nI 0, ?_, fun h => absurd h (by decide)⟩
      have h1 := fun (d : Nat) => b263a (L := L) (xs := xs) (d := d) (x := 0) (M := (M.1, o)) b2
      simp only [s283_0, s283_1, s283_4, s283_7, s283_8, k1, h1, qbt, qbf, qi_z0, true_or, List.length_cons, List.length_nil, Nat.zero_le, Nat.reduceAdd, Nat.reduceLeDiff, Option.bind_some, qx_kn_v, qx_kn_n, Nat.add_zero, Bool.false_eq_true, ↓reduceIte]
  · have hn14 : n ≤ 14 := hp.1
    have hn0 : M.1 101 0 = nI n := hu.1
    have hneed := fun (d x : Nat) => a159 (L := L) (xs := xs) (d := d) (x := x) b1
    have hmay := fun (o : (Nat → Int64) × (Nat → UInt64)) (d : Nat) => b263c (L := L) (xs := xs) (d := d) (x := 0) (M := (M.1, o)) b2
    have hZ : qx_Z 104 := qx_T100.2.2
    have hP : qx_P 101 := qx_T100.2.1
    have hst0 : M.1 104 0 = nI st := hS.1.1
    have hst9 : ∀ {st : Nat}, st ≤ B + 1 → st < 100000 := fun h => by omega
    have hall : 2 ^ n - 1 < 16384 := by have := n14 hn14; have := Nat.two_pow_pos n; omega
    have ha := qal_ok hp hp.2.1
    obtain ⟨M1, st1, g1, s1, t1, f1⟩ := a168 (L := L) (xs := xs) (d := d + 36) (x := 0) hp hu hT0 hB
    obtain ⟨M2, g2, t2, f2⟩ := m10 (L := L) (xs := xs) (d := d + 20) (x := 0) ha (hst9 s1) hall t1
    have h11 := m11 (L := L) (xs := xs) (d := d + 38) (x := 0) (M := M2) ha (qLo_lt (al := qal r q f) (all := 2 ^ n - 1)) t2.1.1
    have F := qf_trans f1 (qF_m f2)
    have h36 := m36 (L := L) (xs := xs) (d := d + 38) (x := 0) (M := M2) hP (by rw [F.1 101 (by unfold qFm; omega)]; exact hn0) hn14
    refine qPairG_mem hR (nI (qb_dif (qb_dif (2 ^ n - 1) (qLo (qal r q f) (2 ^ n - 1))) (qBa (qal r q f) (qLo (qal r q f) (2 ^ n - 1))))) ?_ F (qTab_s ha s1 t2) (fun o => ?_)
    · simp only [s121_0, s121_1, s121_4, s121_5, s121_8i, s121_8r, s121_8n, s121_9, s121_10, s121_13i, s121_13r, s121_13n, s121_14, s121_15, s121_18, s121_21, s121_24, s121_25, s121_26, s121_27, s121_28, s121_29, s121_30, s121_33, s121_34, s121_35, s121_36, qx_m10, qx_T100.1, hP.1, hneed, g1, g2, h36, qb_andn, h11, List.length_cons, List.length_nil, Nat.zero_le, Nat.reduceAdd, Nat.reduceLeDiff, Option.bind_some, qx_kn_v, qx_kn_n, Nat.add_zero, Bool.false_eq_true, ↓reduceIte]
    · have hu2 := nPu_F hm F o (nI 0)
      obtain ⟨M3, g3, l3, f3⟩ := m273 (L := L) (xs := xs) (d := d + 34) (x := 0) hp (al := qal r q f) (fun p _ => rfl) ha hu2
      have hn3 : M3.1 401 0 = nI n := by rw [f3.1 401 (by unfold qTb; omega)]; exact hu2.1
      have h274 := m274 (L := L) (xs := xs) (d := d + 38) (x := 0) (M := M3) ha hn14 hn3 (fun p h1 h2 => qal_0 hp hp.2.1 h1 h2) (qLo_lt (al := qal r q f) (all := 2 ^ n - 1)) l3.1
      have h212 := fun d => m212 (L := L) (xs := xs) (d := d) (x := 0) hn3 hn14
      have h263 := fun d => mo263 (L := L) (xs := xs) b2 F o d
      refine ⟨M3, ?_, f3⟩
      simp only [s283_0, s283_1, s283_4, s283_7, s283_8, s283_9, s283_10, s283_13i, s283_13r, s283_13n, s283_14, s283_15, s283_18, s283_19, s283_20, s283_21, s283_22, s283_23, s283_24, s283_27, s283_28, s283_29, s283_30, k1, h263, qbt, g3, h212, qb_andn, h274, List.length_cons, List.length_nil, Nat.zero_le, Nat.reduceAdd, Nat.reduceLeDiff, Option.bind_some, qx_kn_v, qx_kn_n, Nat.add_zero, Bool.false_eq_true, ↓reduceIte]
theorem j122 {M : qxM} {B : Nat} (hR : qREL M) (hT0 : qTab B M) (hB : B < 90000) : qPairG Value.int B L xs (d + 40) 122 [some (.ref 10), none] 284 [some (.ref 400)] ke0 M := by
  obtain ⟨k1, k2, k3⟩ := qx_m400
  rcases qREL_cmp hR with ⟨b1, b2, b3, b4⟩ | ⟨b1, b2, n, r, q, f, mt, s1, s2, s3, s4, st, rt, sp, bm, ou, inn, qb, e, as, qa, bs, lk, nr, fr, wy, hp, hn1, hT, hou, hinn, he14, hst4, hu, ⟨a1, a2, a3, a4⟩, hS, hm, ⟨v1, v2, v3, v4⟩, h35, hN⟩
  · refine qPairG_of hT0 hR 1 0 (by decide) ?_ ?_
    · rw [if_neg (by decide)]
      simp only [s122_0, s122_1, qx_m10, a159t b1, List.length_cons, List.length_nil, Nat.zero_le, Nat.reduceAdd, Nat.reduceLeDiff, Option.bind_some, qx_kn_v, qx_kn_n, Nat.add_zero, Bool.false_eq_true, ↓reduceIte]
      exact qx_kn_t rfl rfl rfl
    · intro o
      refine ⟨nI 0, ?_, fun h => absurd h (by decide)⟩
      have h1 := fun (d : Nat) => b263a (L := L) (xs := xs) (d := d) (x := 0) (M := (M.1, o)) b2
      simp only [s284_0, s284_1, s284_4, s284_7, s284_8, s284_9, s284_12, s284_15, s284_18, s284_19, k1, h1, qbt, qbf, qi_z0, true_or, List.length_cons, List.length_nil, Nat.zero_le, Nat.reduceAdd, Nat.reduceLeDiff, Option.bind_some, qx_kn_v, qx_kn_n, Nat.add_zero, Bool.false_eq_true, ↓reduceIte]
  · have hn14 : n ≤ 14 := hp.1
    have hn0 : M.1 101 0 = nI n := hu.1
    have hneed := fun (d x : Nat) => a159 (L := L) (xs := xs) (d := d) (x := x) b1
    have hmay := fun (o : (Nat → Int64) × (Nat → UInt64)) (d : Nat) => b263c (L := L) (xs := xs) (d := d) (x := 0) (M := (M.1, o)) b2
    have hZ : qx_Z 104 := qx_T100.2.2
    have hP : qx_P 101 := qx_T100.2.1
    have hst0 : M.1 104 0 = nI st := hS.1.1
    have hst9 : ∀ {st : Nat}, st ≤ B + 1 → st < 100000 := fun h => by omega
    have hall : 2 ^ n - 1 < 16384 := by have := n14 hn14; have := Nat.two_pow_pos n; omega
    have ha := qal_ok hp hp.2.1
    obtain ⟨M1, st1, g1, s1, t1, f1⟩ := a168 (L := L) (xs := xs) (d := d + 36) (x := 0) hp hu hT0 hB
    obtain ⟨M2, g2, t2, f2⟩ := m10 (L := L) (xs := xs) (d := d + 20) (x := 0) ha (hst9 s1) hall t1
    have h17 := m17 (L := L) (xs := xs) (d := d + 36) (x := 0) (M := M2) (o := false) ha (qLo_lt (al := qal r q f) (all := 2 ^ n - 1)) t2.1.1
    rw [← bI_f] at h17
    have F := qf_trans f1 (qF_m f2)
    have hlo : qLo (qal r q f) (2 ^ n - 1) < 2 ^ n := by
      have h : qLo (qal r q f) (2 ^ n - 1) ≤ 2 ^ n - 1 := pc_le_of (fun j hj => by
        unfold qLo at hj
        rw [qb_of_bit, Bool.and_eq_true, Bool.and_eq_true] at hj
        exact hj.2.1)
      have := Nat.two_pow_pos n
      omega
    refine qPairG_mem hR (nI (ow (qal r q f) false 14 (qLo (qal r q f) (2 ^ n - 1)))) ?_ F (qTab_s ha s1 t2) (fun o => ?_)
    · simp only [s122_0, s122_1, s122_4, s122_5, s122_8i, s122_8r, s122_8n, s122_9, s122_10, s122_11, s122_14, s122_15, s122_18, qx_m10, hneed, g1, g2, h17, List.length_cons, List.length_nil, Nat.zero_le, Nat.reduceAdd, Nat.reduceLeDiff, Option.bind_some, qx_kn_v, qx_kn_n, Nat.add_zero, Bool.false_eq_true, ↓reduceIte]
    · have hu2 := nPu_F hm F o (nI 0)
      obtain ⟨M3, g3, l3, f3⟩ := m273 (L := L) (xs := xs) (d := d + 34) (x := 0) hp (al := qal r q f) (fun p _ => rfl) ha hu2
      have hn3 : M3.1 401 0 = nI n := by rw [f3.1 401 (by unfold qTb; omega)]; exact hu2.1
      have h277 := m277 (L := L) (xs := xs) (d := d + 36) (x := 0) (M := M3) ha hn14 hlo hn3 l3.1
      have h263 := fun d => mo263 (L := L) (xs := xs) b2 F o d
      refine ⟨M3, ?_, f3⟩
      simp only [s284_0, s284_1, s284_4, s284_7, s284_8, s284_9, s284_12, s284_15, s284_18, s284_19, k1, h263, qbt, g3, h277, List.length_cons, List.length_nil, Nat.zero_le, Nat.reduceAdd, Nat.reduceLeDiff, Option.bind_some, qx_kn_v, qx_kn_n, Nat.add_zero, Bool.false_eq_true, ↓reduceIte]
theorem j124 {M : qxM} {B : Nat} (hR : qREL M) (hT0 : qTab B M) (hB : B < 90000) : qPairG Value.int B L xs (d + 40) 124 [some (.ref 10), none, none, none] 286 [some (.ref 400), none] ke0 M := by
  obtain ⟨k1, k2, k3⟩ := qx_m400
  rcases qREL_cmp hR with ⟨b1, b2, b3, b4⟩ | ⟨b1, b2, n, r, q, f, mt, s1, s2, s3, s4, st, rt, sp, bm, ou, inn, qb, e, as, qa, bs, lk, nr, fr, wy, hp, hn1, hT, hou, hinn, he14, hst4, hu, ⟨a1, a2, a3, a4⟩, hS, hm, ⟨v1, v2, v3, v4⟩, h35, hN⟩
  · refine qPairG_of hT0 hR 1 0 (by decide) ?_ ?_
    · rw [if_neg (by decide)]
      simp only [s124_0, s124_1, qx_m10, a159t b1, List.length_cons, List.length_nil, Nat.zero_le, Nat.reduceAdd, Nat.reduceLeDiff, Option.bind_some, qx_kn_v, qx_kn_n, Nat.add_zero, Bool.false_eq_true, ↓reduceIte]
      exact qx_kn_t rfl rfl rfl
    · intro o
      refine ⟨nI 0, ?_, fun h => absurd h (by decide)⟩
      have h1 := fun (d : Nat) => b263a (L := L) (xs := xs) (d := d) (x := 0) (M := (M.1, o)) b2
      simp only [s286_0, s286_1, s286_4, s286_7, s286_8, k1, h1, qbt, qbf, qi_z0, true_or, List.length_cons, List.length_nil, Nat.zero_le, Nat.reduceAdd, Nat.reduceLeDiff, Option.bind_some, qx_kn_v, qx_kn_n, Nat.add_zero, Bool.false_eq_true, ↓reduceIte]
  · have hn14 : n ≤ 14 := hp.1
    have hn0 : M.1 101 0 = nI n := hu.1
    have hneed := fun (d x : Nat) => a159 (L := L) (xs := xs) (d := d) (x := x) b1
    have hmay := fun (o : (Nat → Int64) × (Nat → UInt64)) (d : Nat) => b263c (L := L) (xs := xs) (d := d) (x := 0) (M := (M.1, o)) b2
    have hZ : qx_Z 104 := qx_T100.2.2
    have hP : qx_P 101 := qx_T100.2.1
    have hst0 : M.1 104 0 = nI st := hS.1.1
    have hst9 : ∀ {st : Nat}, st ≤ B + 1 → st < 100000 := fun h => by omega
    have hall : 2 ^ n - 1 < 16384 := by have := n14 hn14; have := Nat.two_pow_pos n; omega
    have ha := qal_ok hp hp.2.1
    obtain ⟨M1, st1, g1, s1, t1, f1⟩ := a168 (L := L) (xs := xs) (d := d + 36) (x := 0) hp hu hT0 hB
    obtain ⟨M2, g2, t2, f2⟩ := m10 (L := L) (xs := xs) (d := d + 20) (x := 0) ha (hst9 s1) hall t1
    have h11 := m11 (L := L) (xs := xs) (d := d + 38) (x := 0) (M := M2) ha (qLo_lt (al := qal r q f) (all := 2 ^ n - 1)) t2.1.1
    have h17 := m17 (L := L) (xs := xs) (d := d + 36) (x := 0) (M := M2) (o := false) ha (qLo_lt (al := qal r q f) (all := 2 ^ n - 1)) t2.1.1
    rw [← bI_f] at h17
    have F := qf_trans f1 (qF_m f2)
    have hn5 : M2.1 101 0 = nI n := by rw [F.1 101 (by unfold qFm; omega)]; exact hn0
    have hlo : qLo (qal r q f) (2 ^ n - 1) < 2 ^ n := by
      have h : qLo (qal r q f) (2 ^ n - 1) ≤ 2 ^ n - 1 := pc_le_of (fun j hj => by
        unfold qLo at hj
        rw [qb_of_bit, Bool.and_eq_true, Bool.and_eq_true] at hj
        exact hj.2.1)
      have := Nat.two_pow_pos n
      omega
    have h2 : ¬ nI 2 = 0 := by decide
    refine qPairG_mem hR ((nI (n + qb_pc (qBa (qal r q f) (qLo (qal r q f) (2 ^ n - 1)))) - nI (ow (qal r q f) false 14 (qLo (qal r q f) (2 ^ n - 1)))) / nI 2) ?_ F (qTab_s ha s1 t2) (fun o => ?_)
    · simp only [s124_0, s124_1, s124_4, s124_5, s124_8i, s124_8r, s124_8n, s124_9, s124_10, s124_13i, s124_13r, s124_13n, s124_14, s124_15, s124_16, s124_19, s124_22i, s124_22r, s124_22n, s124_23, s124_24, s124_27, s124_30, s124_33, s124_34, s124_35, s124_36, s124_37, s124_38, s124_41, s124_42, s124_43, s124_44, qx_m10, qx_T100.1, hP.1, hneed, g1, g2, h11, h17, m334, qb_bc_ok (qBa_lt (al := qal r q f) (lo := qLo (qal r q f) (2 ^ n - 1))), hn5, nI_add, h2, not_false_eq_true, ne_eq, List.length_cons, List.length_nil, Nat.zero_le, Nat.reduceAdd, Nat.reduceLeDiff, Option.bind_some, qx_kn_v, qx_kn_n, Nat.add_zero, Bool.false_eq_true, ↓reduceIte]
    · have hu2 := nPu_F hm F o (nI 0)
      obtain ⟨M3, g3, l3, f3⟩ := m273 (L := L) (xs := xs) (d := d + 34) (x := 0) hp (al := qal r q f) (fun p _ => rfl) ha hu2
      have hn3 : M3.1 401 0 = nI n := by rw [f3.1 401 (by unfold qTb; omega)]; exact hu2.1
      have h274 := m274 (L := L) (xs := xs) (d := d + 38) (x := 0) (M := M3) ha hn14 hn3 (fun p h1 h2 => qal_0 hp hp.2.1 h1 h2) (qLo_lt (al := qal r q f) (all := 2 ^ n - 1)) l3.1
      have h277 := m277 (L := L) (xs := xs) (d := d + 36) (x := 0) (M := M3) ha hn14 hlo hn3 l3.1
      have h263 := fun d => mo263 (L := L) (xs := xs) b2 F o d
      refine ⟨M3, ?_, f3⟩
      simp only [s286_0, s286_1, s286_4, s286_7, s286_8, s286_9, s286_10, s286_13i, s286_13r, s286_13n, s286_14, s286_15, s286_18, s286_19, s286_20, s286_21, s286_22, s286_25, s286_28, s286_29, s286_30, s286_31, s286_34, s286_35, s286_36, s286_37, k1, k2, k3, h263, qbt, g3, h274, h277, m209 (qBa_lt (al := qal r q f) (lo := qLo (qal r q f) (2 ^ n - 1))), hn3, nI_add, h2, not_false_eq_true, ne_eq, (qn_c (0) (by omega)).1, (qn_c (0) (by omega)).2, List.length_cons, List.length_nil, Nat.zero_le, Nat.reduceAdd, Nat.reduceLeDiff, Option.bind_some, qx_kn_v, qx_kn_n, Nat.add_zero, Bool.false_eq_true, ↓reduceIte]
theorem j132 {M : qxM} {B : Nat} (hR : qREL M) (hT0 : qTab B M) (hB : B < 90000) (z : Int32) : qPairG Value.int B L xs (d + 40) 132 [some (.ref 10), some (.int z)] 300 [some (.ref 400), some (.int z), none] ke02 M := by
  obtain ⟨k1, k2, k3⟩ := qx_m400
  rcases qREL_cmp hR with ⟨b1, b2, b3, b4⟩ | ⟨b1, b2, n, r, q, f, mt, s1, s2, s3, s4, st, rt, sp, bm, ou, inn, qb, e, as, qa, bs, lk, nr, fr, wy, hp, hn1, hT, hou, hinn, he14, hst4, hu, ⟨a1, a2, a3, a4⟩, hS, hm, ⟨v1, v2, v3, v4⟩, h35, hN⟩
  · refine qPairG_of hT0 hR 1 0 (by decide) ?_ ?_
    · rw [if_neg (by decide)]
      simp only [s132_0, s132_1, s132_2, qx_m10, a160t b1, List.length_cons, List.length_nil, Nat.zero_le, Nat.reduceAdd, Nat.reduceLeDiff, Option.bind_some, qx_kn_v, qx_kn_n, Nat.add_zero, Bool.false_eq_true, ↓reduceIte]
      exact qx_kn_t rfl rfl rfl
    · intro o
      refine ⟨nI 0, ?_, fun h => absurd h (by decide)⟩
      have h1 := fun (d : Nat) => b226a (L := L) (xs := xs) (d := d) (x := 0) (M := (M.1, o)) b2 b3 (by decide) z
      simp only [s300_0, s300_1, s300_2, s300_5, s300_8, s300_9, k1, h1, qbt, qbf, qi_z0, true_or, List.length_cons, List.length_nil, Nat.zero_le, Nat.reduceAdd, Nat.reduceLeDiff, Option.bind_some, qx_kn_v, qx_kn_n, Nat.add_zero, Bool.false_eq_true, ↓reduceIte]
  · have hn14 : n ≤ 14 := hp.1
    have hn0 : M.1 101 0 = nI n := hu.1
    by_cases hz : qOut n z
    · refine qPairG_of hT0 hR 2 0 (by decide) ?_ ?_
      · rw [if_neg (by decide)]
        simp only [s132_0, s132_1, s132_2, qx_m10, a160o b1 hn0 hz, List.length_cons, List.length_nil, Nat.zero_le, Nat.reduceAdd, Nat.reduceLeDiff, Option.bind_some, qx_kn_v, qx_kn_n, Nat.add_zero, Bool.false_eq_true, ↓reduceIte]
        exact qx_kn_t rfl rfl rfl
      · intro o
        refine ⟨nI 0, ?_, fun h => absurd h (by decide)⟩
        have h1 := fun (d : Nat) => b226b (L := L) (xs := xs) (d := d) (x := 0) (M := (M.1, o)) b2 hm.1 hn14 hz
        simp only [s300_0, s300_1, s300_2, s300_5, s300_8, s300_9, k1, h1, qbt, qbf, qi_z0, true_or, List.length_cons, List.length_nil, Nat.zero_le, Nat.reduceAdd, Nat.reduceLeDiff, Option.bind_some, qx_kn_v, qx_kn_n, Nat.add_zero, Bool.false_eq_true, ↓reduceIte]
    obtain ⟨p, p1, p2⟩ := qOut_not (by omega) hz
    subst p2
    have hp14 : p < 14 := by omega
    have hneed := fun (d x : Nat) => a160 (L := L) (xs := xs) (d := d) (x := x) b1 hn0 hn14 p1
    have hmay := fun (o : (Nat → Int64) × (Nat → UInt64)) (d : Nat) => b226c (L := L) (xs := xs) (d := d) (x := 0) (M := (M.1, o)) b2 hm.1 hn14 p1
    have hZ : qx_Z 104 := qx_T100.2.2
    have hP : qx_P 101 := qx_T100.2.1
    have hst0 : M.1 104 0 = nI st := hS.1.1
    have hst9 : ∀ {st : Nat}, st ≤ B + 1 → st < 100000 := fun h => by omega
    have hall : 2 ^ n - 1 < 16384 := by have := n14 hn14; have := Nat.two_pow_pos n; omega
    have ha := qal_ok hp hp.2.1
    obtain ⟨M1, st1, g1, s1, t1, f1⟩ := a168 (L := L) (xs := xs) (d := d + 36) (x := 0) hp hu hT0 hB
    obtain ⟨M2, g2, t2, f2⟩ := m3 (L := L) (xs := xs) (d := d + 21) (x := 0) (a := p) (b := p) ha (hst9 s1) hall hp14 hp14 t1
    rw [qd_dd] at g2
    have F := qf_trans f1 (qF_m f2)
    refine qPairG_mem hR (nI (mF (qal r q f) (qd (2 ^ n - 1) p))) ?_ F (qTab_s ha s1 t2) (fun o => ?_)
    · simp only [s132_0, s132_1, s132_2, s132_5, s132_6, s132_9, s132_10, s132_11, s132_14, qx_m10, hneed, g1, g2, List.length_cons, List.length_nil, Nat.zero_le, Nat.reduceAdd, Nat.reduceLeDiff, Option.bind_some, qx_kn_v, qx_kn_n, Nat.add_zero, Bool.false_eq_true, ↓reduceIte]
    · have hu2 := nPu_F hm F o (nI 0)
      obtain ⟨M3, g3, l3, f3⟩ := m271 (L := L) (xs := xs) (d := d + 35) (x := 0) hp (al := qal r q f) (fun p _ => rfl) ha hu2
      have hn3 : M3.1 401 0 = nI n := by rw [f3.1 401 (by unfold qTb; omega)]; exact hu2.1
      have h272 := m272 (L := L) (xs := xs) (d := d + 38) (x := 0) hn14 hn3 hp14 l3
      have h226 := fun d => mo226 (L := L) (xs := xs) b2 hm.1 hn14 p1 F o d
      refine ⟨M3, ?_, f3⟩
      simp only [s300_0, s300_1, s300_2, s300_5, s300_8, s300_9, s300_10, s300_11, s300_14i, s300_14r, s300_14n, s300_15, s300_16, s300_17, s300_20, k1, h226, qbt, g3, h272, List.length_cons, List.length_nil, Nat.zero_le, Nat.reduceAdd, Nat.reduceLeDiff, Option.bind_some, qx_kn_v, qx_kn_n, Nat.add_zero, Bool.false_eq_true, ↓reduceIte]
end QL
