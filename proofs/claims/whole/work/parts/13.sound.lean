/-! Calls, handlers, and the induction. -/
theorem qx_call_act {L : Nat} {xs : Nat → Int32} {own : String} {cc : ByteArray} {rt : Option FieldType} {pc np a b w : Nat} {ins : Instr} {ls : qxL} {st : List Value} {M : qxM} {c : Nat × List Value × List Value}
    (ok : qx_okE own cc (pc, ins, np, a, b, w) = true) (ha : qx_act L xs rt (pc, ins, np, a, b, w) ls st M = some (.inr (.inr (.inr c)))) :
    np = pc + 3 ∧ c = (a, (st.take b).reverse, st.drop b) ∧ b ≤ st.length ∧ (st.drop b).length ≤ 4 ∧ ∃ (ci : qxI) (n : Nat), qx_mis[a]? = some ci ∧ a < 394 ∧
      ((decode cc pc = .ok (.invokevirtual n, 3) ∧ Cond.methodLink own n ci.2.1 ∈ qx_gts ∧ ci.2.2.2.2.2.1 = false ∧ b = ci.2.2.2.2.2.2.1 + 1) ∨
       (decode cc pc = .ok (.invokestatic n, 3) ∧ (Cond.methodLink own n ci.2.1 ∈ qx_gts ∨ (Cond.methodLinkNest own n ci.2.1 "PupilPairs" ∈ lw_tbl ∧ ci.2.2.2.2.2.2.2.1 = [])) ∧ ci.2.2.2.2.2.1 = true ∧ b = ci.2.2.2.2.2.2.1)) := by
  unfold qx_okE at ok
  simp only [Bool.and_eq_true, decide_eq_true_eq, Bool.or_eq_true] at ok
  obtain ⟨hd, hpc, hlen, ok⟩ := ok
  cases ins with
  | invokevirtual n =>
    obtain rfl : np = pc + 3 := by simpa [qx_isT, qx_len] using hlen
    rw [Nat.add_sub_cancel_left] at hd
    simp only [qx_act] at ha
    split at ha
    · exfalso
      repeat' split at ha
      all_goals simp [qx_go] at ha
    · exfalso
      repeat' split at ha
      all_goals simp [qx_go] at ha
    · rename_i h1 h2
      split at ha
      · rename_i h3
        cases ha
        cases hci : qx_mis[a]? with
        | none =>
          exfalso
          dsimp only at ok
          rw [hci] at ok
          split at ok
          · exact h1 rfl
          · exact h2 rfl
          · cases ok
        | some ci =>
          dsimp only at ok
          rw [hci] at ok
          split at ok
          · exact absurd rfl h1
          · exact absurd rfl h2
          · simp only [Bool.and_eq_true, decide_eq_true_eq] at ok
            exact ⟨rfl, rfl, h3.1, h3.2, ci, n, rfl, ok.1, Or.inl ⟨hd, qx_wd_in ok.2.1, ok.2.2.1, ok.2.2.2⟩⟩
      · cases ha
  | invokestatic n =>
    obtain rfl : np = pc + 3 := by simpa [qx_isT, qx_len] using hlen
    rw [Nat.add_sub_cancel_left] at hd
    simp only [qx_act] at ha
    split at ha
    · exfalso
      repeat' split at ha
      all_goals simp [qx_go] at ha
    · exfalso
      repeat' split at ha
      all_goals simp [qx_go] at ha
    · exfalso
      repeat' split at ha
      all_goals simp [qx_go] at ha
    · rename_i h1 h2 h9
      split at ha
      · rename_i h3
        cases ha
        cases hci : qx_mis[a]? with
        | none =>
          exfalso
          dsimp only at ok
          rw [hci] at ok
          split at ok
          · exact h1 rfl
          · exact h2 rfl
          · exact h9 rfl
          · cases ok
        | some ci =>
          dsimp only at ok
          rw [hci] at ok
          split at ok
          · exact absurd rfl h1
          · exact absurd rfl h2
          · exact absurd rfl h9
          · simp only [Bool.and_eq_true, decide_eq_true_eq, Bool.or_eq_true] at ok
            refine ⟨rfl, rfl, h3.1, h3.2, ci, n, rfl, ok.1, Or.inr ⟨hd, ?_, ok.2.2.1, ok.2.2.2⟩⟩
            rcases ok.2.1 with h | h
            · exact Or.inl (qx_wd_in h)
            · unfold qx_wn at h
              simp only [Bool.and_eq_true, decide_eq_true_eq] at h
              exact Or.inr ⟨List.mem_of_getElem? h.1.2, h.2⟩
      · cases ha
  | dconst n =>
    obtain rfl | rfl : n = 0 ∨ n = 1 := by
      match n with
      | 0 => exact Or.inl rfl
      | 1 => exact Or.inr rfl
    all_goals simp [qx_act, qx_go] at ha
  | fconst n =>
    obtain rfl | rfl | rfl : n = 0 ∨ n = 1 ∨ n = 2 := by
      match n with
      | 0 => exact Or.inl rfl
      | 1 => exact Or.inr (Or.inl rfl)
      | 2 => exact Or.inr (Or.inr rfl)
    all_goals simp [qx_act, qx_go] at ha
  | _ =>
    exfalso
    simp only [qx_act, qx_go, qx_sI, qx_s2] at ha
    repeat' split at ha
    all_goals first | (cases ha; done) | (simp at ha; done)
theorem qx_thr_act {L : Nat} {xs : Nat → Int32} {rt : Option FieldType} {pc np a b w : Nat} {ins : Instr} {ls : qxL} {st : List Value} {M : qxM} {E : String}
    (ha : qx_act L xs rt (pc, ins, np, a, b, w) ls st M = some (.inr (.inr (.inl E)))) : st = [] ∧ a < 3 ∧ E = qx_ex a ∧ ∃ n, ins = .new n := by
  cases ins with
  | new n =>
    simp only [qx_act] at ha
    split at ha
    · split at ha
      · rename_i h
        cases ha
        exact ⟨rfl, h, rfl, n, rfl⟩
      · cases ha
    · cases ha
  | dconst n =>
    obtain rfl | rfl : n = 0 ∨ n = 1 := by
      match n with
      | 0 => exact Or.inl rfl
      | 1 => exact Or.inr rfl
    all_goals simp [qx_act, qx_go] at ha
  | fconst n =>
    obtain rfl | rfl | rfl : n = 0 ∨ n = 1 ∨ n = 2 := by
      match n with
      | 0 => exact Or.inl rfl
      | 1 => exact Or.inr (Or.inl rfl)
      | 2 => exact Or.inr (Or.inr rfl)
    all_goals simp [qx_act, qx_go] at ha
  | _ =>
    exfalso
    simp only [qx_act, qx_go, qx_sI, qx_s2] at ha
    repeat' split at ha
    all_goals first | (cases ha; done) | (simp at ha; done)
theorem qx_good_all {ws : List Jvm.Cond} (h : ∀ w ∈ ws, w ∈ qx_gts) : GoodIn qx_gts ws := fun w hw => ⟨h w hw, good_of_word (qx_gt_good (h w hw))⟩
theorem qx_cast_in : ∀ a, a < 3 → Cond.castable (qx_ex a) (qx_ex a) ∈ lw_tbl := by decide +kernel
/-- the handler that the small machine finds is the one that the machine takes -/
theorem qx_hd_spec {y pc np k : Nat} {E : String} {ci : qxI} (hci : qx_mis[y]? = some ci) (hok : qx_okH y = true) (h : qx_hd y pc E = some (np, k)) :
    ∃ (pre : List ExceptionTableEntry) (x : ExceptionTableEntry) (suf : List ExceptionTableEntry) (a : Nat), tableOf ci.2.2.2.2.2.2.2.1 = pre ++ x :: suf ∧ a < 3 ∧ E = qx_ex a ∧
      (∀ z ∈ pre, covers z pc = false ∨ (z.catchType ≠ 0 ∧ ∃ nm, Cond.classLink ci.1 z.catchType nm ∈ qx_gts ∧ (E, nm) ∈ qx_ncs)) ∧ covers x pc = true ∧ x.catchType ≠ 0 ∧ Cond.classLink ci.1 x.catchType E ∈ qx_gts ∧
      ((∃ n : Fin 4, decode ci.2.2.1 x.handlerPc = .ok (.astore_n n, 1) ∧ (n : Nat) = k ∧ np = x.handlerPc + 1) ∨ (decode ci.2.2.1 x.handlerPc = .ok (.astore k, 2) ∧ np = x.handlerPc + 2)) := by
  unfold qx_okH at hok
  rw [hci] at hok
  simp only [Bool.and_eq_true, decide_eq_true_eq] at hok
  obtain ⟨heq, hall⟩ := hok
  unfold qx_hd at h
  cases hf : (qx_hs y).find? (fun h => decide (h.2.1 ≤ pc) && (decide (pc < h.2.2.1) && h.2.2.2.1 == E)) with
  | none => rw [hf] at h; cases h
  | some b =>
    rw [hf] at h
    rw [List.find?_eq_some_iff_append] at hf
    obtain ⟨hb, as, bs, hsp, has⟩ := hf
    obtain ⟨y0, s0, e0, E0, hp, k0, np0, ct, w⟩ := b
    simp only [Option.map_some, Option.some.injEq, Prod.mk.injEq] at h
    obtain ⟨rfl, rfl⟩ := h
    simp only [Bool.and_eq_true, decide_eq_true_eq, beq_iff_eq] at hb
    obtain ⟨hb1, hb2, rfl⟩ := hb
    have hbm := List.all_eq_true.mp hall (y0, s0, e0, E0, hp, k0, np0, ct, w) (by rw [hsp]; exact List.mem_append_right _ List.mem_cons_self)
    simp only [Bool.and_eq_true, decide_eq_true_eq, Bool.or_eq_true] at hbm
    obtain ⟨hE3, hct, hcl, hdec⟩ := hbm
    obtain ⟨a, ha3, hEa⟩ : ∃ a, a < 3 ∧ E0 = qx_ex a := by
      rcases hE3 with h | h | h
      · exact ⟨0, by decide, h⟩
      · exact ⟨1, by decide, h⟩
      · exact ⟨2, by decide, h⟩
    refine ⟨as.map (fun h => ⟨h.2.1, h.2.2.1, h.2.2.2.2.1, h.2.2.2.2.2.2.2.1⟩), ⟨s0, e0, hp, ct⟩, bs.map (fun h => ⟨h.2.1, h.2.2.1, h.2.2.2.2.1, h.2.2.2.2.2.2.2.1⟩), a, ?_, ha3, hEa, ?_, ?_, hct, qx_wd_in hcl, ?_⟩
    · rw [← heq, hsp]
      simp [tableOf]
      constructor <;> rfl
    · intro z hz
      obtain ⟨h, hm, rfl⟩ := List.mem_map.mp hz
      obtain ⟨y1, s1, e1, E1, hp1, k1, np1, ct1, w1⟩ := h
      have h1 := has _ hm
      have h2 := List.all_eq_true.mp hall (y1, s1, e1, E1, hp1, k1, np1, ct1, w1) (by rw [hsp]; exact List.mem_append_left _ hm)
      simp only [Bool.and_eq_true, decide_eq_true_eq, Bool.or_eq_true] at h2
      by_cases hcov : covers ⟨s1, e1, hp1, ct1⟩ pc = true
      · right
        refine ⟨h2.2.1, E1, qx_wd_in h2.2.2.1, ?_⟩
        have hne : E1 ≠ E0 := by
          rintro rfl
          simp only [covers, Bool.and_eq_true, decide_eq_true_eq] at hcov
          simp [hcov.1, hcov.2] at h1
        rcases hE3 with rfl | rfl | rfl <;> rcases h2.1 with rfl | rfl | rfl <;> first | exact absurd rfl hne | decide
      · exact Or.inl (by simpa using hcov)
    · simp [covers, hb1, hb2]
    · show (∃ n : Fin 4, decode ci.2.2.1 hp = _ ∧ _) ∨ _
      revert hdec
      cases hdd : decode ci.2.2.1 hp with
      | error e => intro hdec; cases hdec
      | ok v =>
        obtain ⟨i, n⟩ := v
        intro hdec
        split at hdec
        · rename_i n2 h9
          cases h9
          simp only [Bool.and_eq_true, decide_eq_true_eq] at hdec
          exact Or.inl ⟨n2, rfl, hdec.1, hdec.2⟩
        · rename_i n2 h9
          cases h9
          simp only [Bool.and_eq_true, decide_eq_true_eq] at hdec
          obtain ⟨rfl, h8⟩ := hdec
          exact Or.inr ⟨rfl, h8⟩
        · cases hdec
section QXI
variable {l : Launch} {L : Nat} {xs : Nat → Int32} {D : va_G} {ad : Nat → Nat} {cy : Nat → ClassId}
theorem qx_pre_at {s : State} {A : Nat → Prop} {M : qxM} {H : Heap} {locs : List Loc} {av : List Value} (hW : qx_W D ad cy A M H) (hV : qx_V D ad cy s) (hK : qx_K L xs ad A s s.heap) (hS : va_S A s.heap H locs) (hA : ∀ q, s.heap.size ≤ q → A q) :
    ∀ U : State, U.heap = H → s.WarmedH U.vm → va_Pc av (qx_Pre L xs D ad cy M H.size) av.toArray U := by
  intro U hU hWm
  refine ⟨rfl, by rw [hU], ?_, hV.warm hWm, ?_⟩
  · rw [hU]; exact qx_W.self hW hW.1
  · rw [hU]; exact ((hK.kept hS.1 hS.2.1).narrow (qx_AR_in hW hS hA)).moved hWm.alike
theorem qx_vl {ad : Nat → Nat} (v : Option Value) (r : List Value) : (v.map (qx_rv ad)).toList ++ r.map (qx_rv ad) = (v.toList ++ r).map (qx_rv ad) := by cases v <;> rfl
theorem qx_cn_ok : ∀ y, y < 334 → (qx_mis[y]?).map (fun i => i.1) = (vwCl[qx_cn y]?).map (fun c => c.1) := by decide +kernel
theorem qx_ss_hi : ∀ y, 334 ≤ y → y < 394 → qx_ss y = true := by
  have h : ∀ y, y < 60 → qx_ss (334 + y) = true := by decide +kernel
  intro y h1 h2
  have h3 := h (y - 334) (by omega)
  rwa [show 334 + (y - 334) = y by omega] at h3
end QXI
