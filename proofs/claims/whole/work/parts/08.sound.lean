/-! Each instruction of the small machine is one of the machine's. -/
def qx_gts : List Jvm.Cond := lw_tbl.filter goodWord
def qx_F (p : Program) (s : State) (m : MethodId) (args : Array Value) (meth : Method) (c : Code) (own : String) (cc : ByteArray) (mx : Nat) (rt : Option FieldType) : Prop :=
  p.tables.exec = Jvm.exec ∧ c.code = cc ∧ meth.sig.returnType = rt ∧ c.maxLocals = mx ∧ s.vm.findClass own = some m.cls ∧ (∀ w ∈ qx_gts, w.before args s = true) ∧ meth.locks = false
/-- pairs of exceptions' classes: one that is thrown, another that a handler ahead names -/
def qx_ncs : List (String × String) := [(qx_ex 0, qx_ex 1), (qx_ex 0, qx_ex 2), (qx_ex 1, qx_ex 0), (qx_ex 1, qx_ex 2), (qx_ex 2, qx_ex 0), (qx_ex 2, qx_ex 1)]
/-- what the machine's tables say besides -/
def qx_V (D : va_G) (ad : Nat → Nat) (cy : Nat → ClassId) (U : State) : Prop :=
  va_K D vwCl (qx_tys cy) U ∧ (∀ w ∈ lw_tbl, qx_nk w = true → va_Nw w U) ∧ (∀ k t, qx_tx[k]? = some t → vk_R t.1 t.2.1 t.2.2 (ad (500 + k)) U) ∧ (∀ q ∈ qx_ncs, va_Nc q.1 q.2 U)
/-- the texts in the heap -/
def qx_S (ad : Nat → Nat) (A : Nat → Prop) (U : State) (H : Heap) : Prop := ∀ k t, qx_tx[k]? = some t → (1 ≤ k ∧ k ≤ 5 ∨ 21 ≤ k) → ∃ a : Nat, va_O RJ0 (ad (500 + k)) A U H ∧ va_OF RJ0 "coder" "B" (.int 0) (ad (500 + k)) A U H ∧ va_OF RJ0 "value" "[B" (.ref a) (ad (500 + k)) A U H ∧ va_T .byte a (qx_txc k).length (fun j => .int (nI ((qx_txc k).getD j 0))) A U H
/-- what stays as it was in the heap: the script, the texts, statics of Throwable, of String -/
def qx_K (L : Nat) (xs : Nat → Int32) (ad : Nat → Nat) (A : Nat → Prop) (U : State) (H : Heap) : Prop :=
  va_X (ad 1) L xs U H ∧ ad 1 < H.size ∧ ¬ A (ad 1) ∧ vx_Zq Bundle.tN "UNASSIGNED_STACK" Bundle.steD A U H ∧ vx_Zq Bundle.tN "SUPPRESSED_SENTINEL" Bundle.listD A U H ∧ qx_S ad A U H ∧
  (∃ v : Value, va_Z RJ0 "COMPACT_STRINGS" "Z" (.int 1) A U H ∧ va_Z RJ3 "SIOOBE_FORMATTER" "Ljava/util/function/BiFunction;" v A U H ∧ (v = .null ∨ ∃ a, v = .ref a))
def qx_W (D : va_G) (ad : Nat → Nat) (cy : Nat → ClassId) (A : Nat → Prop) (M : qxM) (H : Heap) : Prop := va_P D vwCl (qx_ws ad cy M) H ∧ va_D A (qx_ws ad cy M)
theorem qx_lays : ∀ c ∈ vwCl, ∀ w ∈ u_ws c.1 c.2.1 c.2.2, w ∈ qx_gts := by
  have h : (vwCl.all fun c => (u_ws c.1 c.2.1 c.2.2).all fun w => goodWord w && decide (w ∈ lw_tbl)) = true := by decide +kernel
  intro c hc w hw
  have h1 := List.all_eq_true.mp (List.all_eq_true.mp h c hc) w hw
  simp only [Bool.and_eq_true, decide_eq_true_eq] at h1
  exact List.mem_filter.mpr ⟨h1.2, h1.1⟩
theorem qx_cls : ∀ (ci : Nat) (c : vw_C), vwCl[ci]? = some c → (∃ ty0 : Nat → FieldType, ∀ k, k < c.2.2 → parseFieldDescriptor (c.2.1 k).2.2.1 = some (ty0 k)) ∧ (∀ a, a < c.2.2 → ∀ b, b < c.2.2 → a ≠ b → (c.2.1 a).2.1 ≠ (c.2.1 b).2.1) := by
  intro ci c h
  match ci, h with
  | 0, h => cases h; exact ⟨⟨tyX0, tyX0_ok⟩, nmX0⟩
  | 1, h => cases h; exact ⟨⟨tyX1, tyX1_ok⟩, nmX1⟩
  | 2, h => cases h; exact ⟨⟨tyX2, tyX2_ok⟩, nmX2⟩
  | 3, h => cases h; exact ⟨⟨tyX3, tyX3_ok⟩, nmX3⟩
  | 4, h => cases h; exact ⟨⟨tyX4, tyX4_ok⟩, nmX4⟩
  | 5, h => cases h; exact ⟨⟨tyX5, tyX5_ok⟩, nmX5⟩
  | 6, h => cases h; exact ⟨⟨tyX6, tyX6_ok⟩, nmX6⟩
  | 7, h => cases h; exact ⟨⟨tyX7, tyX7_ok⟩, nmX7⟩
  | 8, h => cases h; exact ⟨⟨tyX8, tyX8_ok⟩, nmX8⟩
  | n + 9, h => simp at h
theorem qx_ty6 {cy : Nat → ClassId} {i t n : Nat} (h : (i, Sum.inr (t, n)) ∈ qx_shL) : ∃ ty : FieldType, (qx_tys cy)[t]? = some (cy t, ty) := by
  have h1 : (qx_shL.all fun q => match q.2 with
    | .inr (t, _) => decide (t < 6)
    | _ => true) = true := by decide +kernel
  have h2 := List.all_eq_true.mp h1 _ h
  have h3 : t < 6 := by simpa using h2
  match t, h3 with
  | 0, _ => exact ⟨_, rfl⟩
  | 1, _ => exact ⟨_, rfl⟩
  | 2, _ => exact ⟨_, rfl⟩
  | 3, _ => exact ⟨_, rfl⟩
  | 4, _ => exact ⟨_, rfl⟩
  | 5, _ => exact ⟨_, rfl⟩
theorem qx_go_inj {np : Nat} {ls : qxL} {st : List Value} {M : qxM} {q : Nat × qxL × List Value × qxM} (h : qx_go np ls st M = some (.inl q)) : q = (np, ls, st, M) := by
  unfold qx_go at h
  exact (Sum.inl.inj (Option.some.inj h)).symm
theorem qx_wd_in {w : Nat} {c : Jvm.Cond} (h : qx_wd w c = true) : c ∈ qx_gts := by
  unfold qx_wd at h
  simp only [Bool.and_eq_true, decide_eq_true_eq] at h
  exact List.mem_filter.mpr ⟨List.mem_of_getElem? h.2, h.1⟩
theorem qx_sum4 (ad : Nat → Nat) : ∀ (st : List Value) (n : Nat), st.length ≤ n → ((st.map (qx_rv ad)).map fun v => v.category).sum ≤ 2 * n := by
  intro st
  induction st with
  | nil => intro n _; simp
  | cons a r ih =>
    intro n hn
    cases n with
    | zero => simp at hn
    | succ n =>
      have h1 := ih n (by simpa using hn)
      simp only [List.map_cons, List.sum_cons]
      have h2 : (qx_rv ad a).category ≤ 2 := by cases a <;> simp [qx_rv, Value.category]
      omega
theorem qx_fv_set {ad : Nat → Nat} {cy : Nat → ClassId} {M : qxM} {i ci k : Nat} {x : Int32} {c : vw_C} (hc : vwCl[ci]? = some c) (hk : k < c.2.2) (hf : qx_fo ci k = none) :
    (Sum.inr (ci, ((List.range (qx_nf ci)).map (qx_fv ad M i ci)).set k (.int x)) : va_E) = qx_cell ad cy (qx_up M i k x) i (.inl ci) := by
  unfold qx_cell
  congr 2
  apply List.ext_getElem?
  intro z
  have hn : qx_nf ci = c.2.2 := by unfold qx_nf; rw [hc]
  rw [List.getElem?_set, List.getElem?_map, List.getElem?_map]
  by_cases hz : k = z
  · subst hz
    rw [if_pos rfl, if_pos (by simp [hn]; exact hk), List.getElem?_range (by rw [hn]; exact hk)]
    simp [qx_fv, hf, qx_up]
  · rw [if_neg hz]
    cases h9 : (List.range (qx_nf ci))[z]? with
    | none => rfl
    | some y =>
      have h8 : y = z := by
        rw [List.getElem?_range (by have := (List.getElem?_eq_some_iff.mp h9).1; simpa using this)] at h9
        exact (Option.some.inj h9).symm
      subst h8
      simp only [Option.map_some, qx_fv, qx_up]
      cases qx_fo ci y with
      | none =>
        have hz2 : ¬ y = k := fun e => hz e.symm
        simp [hz2]
      | some o => rfl
theorem qx_row_up {ad : Nat → Nat} {cy : Nat → ClassId} {M : qxM} {i k t n : Nat} {x : Int32} (ht : t = 0 ∨ t = 1 ∨ t = 2) : (Sum.inl (cy t, n, Sum.inl (upd (M.1 i) k x)) : va_E) = qx_cell ad cy (qx_up M i k x) i (.inr (t, n)) := by
  unfold qx_cell
  have h1 : upd (M.1 i) k x = (qx_up M i k x).1 i := by
    funext j
    simp [upd, qx_up]
  rcases ht with rfl | rfl | rfl <;> (rw [h1]; rfl)
section QXN
variable {p : Program} {l : Launch} {e : Env} {R : Room} {s : State} {m : MethodId} {args : Array Value} {below : List Frame} {meth : Method} {c : Code} {H : Heap} {locs : List Loc} {cells slots : Nat} {Q : State → Prop}
/-- a call of String.length, String.charAt on a text, as a row -/
def qx_B (l : Launch) (L : Nat) (xs : Nat → Int32) (D : va_G) (ad : Nat → Nat) (cy : Nat → ClassId) : Prop :=
  ∀ (p : Program) (e : Env) (R : Room) (s : State) (m : MethodId) (args : Array Value) (below : List Frame) (meth : Method) (c : Code) (H : Heap) (locs : List Loc) (cells slots : Nat) (Q : State → Prop) (own : String) (cc : ByteArray) (mx : Nat) (rt : Option FieldType) (A : Nat → Prop) (lsA : Array Slot) (rest : List Value) (pc idx k : Nat) (t : String × Nat × String),
  qx_F p s m args meth c own cc mx rt → qx_V D ad cy s → qx_K L xs ad A s s.heap → va_S A s.heap H locs → (∀ q, s.heap.size ≤ q → A q) → lsA.size = mx → 8 ≤ R.frames → 200 ≤ R.locals → cells ≤ R.cells → slots ≤ R.slots → (rest.map fun v => v.category).sum ≤ 8 → qx_tx[k]? = some t → (1 ≤ k ∧ k ≤ 5 ∨ 21 ≤ k) → decode cc pc = .ok (.invokevirtual idx, 3) →
  ((Cond.methodLink own idx yJ0_length_8abf5 ∈ qx_gts → (∀ (H1 : Heap) (locs1 : List Loc), H1 = H → va_S A s.heap H1 locs1 → W p l e R s m args below meth c H1 locs1 cells slots Q (F0 m (pc + 3) lsA (.int (nI (qx_txc k).length) :: rest))) → W p l e R s m args below meth c H locs cells slots Q (F0 m pc lsA (.ref (ad (500 + k)) :: rest))) ∧
   (∀ j : Int32, ¬ (j < 0 ∨ (qx_txc k).length ≤ j.toNatClampNeg) → Cond.methodLink own idx yJ0_charAt_5068e ∈ qx_gts → (∀ (H1 : Heap) (locs1 : List Loc), H1 = H → va_S A s.heap H1 locs1 → W p l e R s m args below meth c H1 locs1 cells slots Q (F0 m (pc + 3) lsA (.int (nI ((qx_txc k).getD j.toNatClampNeg 0)) :: rest))) → W p l e R s m args below meth c H locs cells slots Q (F0 m pc lsA (.int j :: .ref (ad (500 + k)) :: rest))))
/-- the instructions that look into the heap, or switch, or call -/
def qx_mem (ins : Instr) : Bool := match ins with
  | .dconst _ => true | .fconst _ => true | .ldc _ => true | .ldc_w _ => true | .iinc _ _ => true | .tableswitch .. => true | .arraylength => true | .iaload => true | .baload => true | .laload => true | .daload => true | .aaload => true
  | .iastore => true | .bastore => true | .lastore => true | .dastore => true | .getfield _ => true | .putfield _ => true | .invokevirtual _ => true | .invokestatic _ => true
  | _ => false
set_option maxHeartbeats 4000000 in
theorem qx_plain {L : Nat} {xs : Nat → Int32} {D : va_G} {ad : Nat → Nat} {cy : Nat → ClassId} {own : String} {cc : ByteArray} {mx : Nat} {rt : Option FieldType} {A : Nat → Prop} {lsA : Array Slot} {ls : qxL} {st : List Value} {M : qxM} {pc np a b w : Nat} {ins : Instr} {q : Nat × qxL × List Value × qxM}
    (hno : qx_mem ins = false) (F : qx_F p s m args meth c own cc mx rt) (ok : qx_okE own cc (pc, ins, np, a, b, w) = true) (hV : qx_V D ad cy s) (hK : qx_K L xs ad A s s.heap) (hB : qx_B l L xs D ad cy) (hA : ∀ q, s.heap.size ≤ q → A q) (hR : 8 ≤ R.frames ∧ 200 ≤ R.locals ∧ cells ≤ R.cells ∧ slots ≤ R.slots)
    (hW : qx_W D ad cy A M H) (hS : va_S A s.heap H locs) (hl : lv_has lsA mx (qx_lv ad 0 ls)) (hn : ls.length = mx) (ha : qx_act L xs rt (pc, ins, np, a, b, w) ls st M = some (.inl q))
    (kk : ∀ (H1 : Heap) (locs1 : List Loc) (lsA1 : Array Slot), qx_W D ad cy A q.2.2.2 H1 → va_S A s.heap H1 locs1 → lv_has lsA1 mx (qx_lv ad 0 q.2.1) → q.2.1.length = mx → W p l e R s m args below meth c H1 locs1 cells slots Q (F0 m q.1 lsA1 (q.2.2.1.map (qx_rv ad)))) :
    W p l e R s m args below meth c H locs cells slots Q (F0 m pc lsA (st.map (qx_rv ad))) := by
  obtain ⟨hx, hb, hr, hml, hown, hts, hlocks⟩ := F
  unfold qx_okE at ok
  simp only [Bool.and_eq_true, decide_eq_true_eq, Bool.or_eq_true] at ok
  obtain ⟨hd, hpc, hlen, ok⟩ := ok
  cases ins with
  | iconst n =>
    obtain rfl : np = pc + 1 := by simpa [qx_isT, qx_len] using hlen
    rw [Nat.add_sub_cancel_left] at hd
    simp only [qx_act] at ha
    obtain rfl := qx_go_inj ha
    exact lv_iconst hx hb hd rfl (kk H locs lsA hW hS hl hn)
  | bipush n =>
    obtain rfl : np = pc + 2 := by simpa [qx_isT, qx_len] using hlen
    rw [Nat.add_sub_cancel_left] at hd
    simp only [qx_act] at ha
    obtain rfl := qx_go_inj ha
    exact lv_bipush hx hb hd rfl (kk H locs lsA hW hS hl hn)
  | sipush n =>
    obtain rfl : np = pc + 3 := by simpa [qx_isT, qx_len] using hlen
    rw [Nat.add_sub_cancel_left] at hd
    simp only [qx_act] at ha
    obtain rfl := qx_go_inj ha
    exact lv_sipush hx hb hd rfl (kk H locs lsA hW hS hl hn)
  | lconst n =>
    obtain rfl : np = pc + 1 := by simpa [qx_isT, qx_len] using hlen
    rw [Nat.add_sub_cancel_left] at hd
    simp only [qx_act] at ha
    obtain rfl := qx_go_inj ha
    exact lv_lconst hx hb hd rfl (kk H locs lsA hW hS hl hn)
  | aconst_null =>
    obtain rfl : np = pc + 1 := by simpa [qx_isT, qx_len] using hlen
    rw [Nat.add_sub_cancel_left] at hd
    simp only [qx_act] at ha
    obtain rfl := qx_go_inj ha
    exact lv_null hx hb hd (kk H locs lsA hW hS hl hn)
  | iload n =>
    obtain rfl : np = pc + 2 := by simpa [qx_isT, qx_len] using hlen
    rw [Nat.add_sub_cancel_left] at hd
    simp only [qx_act] at ha
    split at ha
    · rename_i h9
      obtain rfl := qx_go_inj ha
      exact lv_iload hx hb hd (qx_lv_get hl h9) (kk H locs lsA hW hS hl hn)
    · cases ha
  | iload_n n =>
    obtain rfl : np = pc + 1 := by simpa [qx_isT, qx_len] using hlen
    rw [Nat.add_sub_cancel_left] at hd
    simp only [qx_act] at ha
    split at ha
    · rename_i h9
      obtain rfl := qx_go_inj ha
      exact lv_iload_n hx hb hd rfl (qx_lv_get hl h9) (kk H locs lsA hW hS hl hn)
    · cases ha
  | lload n =>
    obtain rfl : np = pc + 2 := by simpa [qx_isT, qx_len] using hlen
    rw [Nat.add_sub_cancel_left] at hd
    simp only [qx_act] at ha
    split at ha
    · rename_i h9
      obtain rfl := qx_go_inj ha
      exact lv_lload hx hb hd (qx_lv_get hl h9) (kk H locs lsA hW hS hl hn)
    · cases ha
  | dload n =>
    obtain rfl : np = pc + 2 := by simpa [qx_isT, qx_len] using hlen
    rw [Nat.add_sub_cancel_left] at hd
    simp only [qx_act] at ha
    split at ha
    · rename_i h9
      obtain rfl := qx_go_inj ha
      exact lv_dload hx hb hd (qx_lv_get hl h9) (kk H locs lsA hW hS hl hn)
    · cases ha
  | fload n =>
    obtain rfl : np = pc + 2 := by simpa [qx_isT, qx_len] using hlen
    rw [Nat.add_sub_cancel_left] at hd
    simp only [qx_act] at ha
    split at ha
    · rename_i h9
      obtain rfl := qx_go_inj ha
      exact lv_fload hx hb hd (qx_lv_get hl h9) (kk H locs lsA hW hS hl hn)
    · cases ha
  | aload n =>
    obtain rfl : np = pc + 2 := by simpa [qx_isT, qx_len] using hlen
    rw [Nat.add_sub_cancel_left] at hd
    simp only [qx_act] at ha
    split at ha
    · rename_i h9
      obtain rfl := qx_go_inj ha
      exact lv_aload hx hb hd (qx_lv_get hl h9) (kk H locs lsA hW hS hl hn)
    · rename_i h9
      obtain rfl := qx_go_inj ha
      exact lv_aloadN hx hb hd (qx_lv_get hl h9) (kk H locs lsA hW hS hl hn)
    · cases ha
  | aload_n n =>
    obtain rfl : np = pc + 1 := by simpa [qx_isT, qx_len] using hlen
    rw [Nat.add_sub_cancel_left] at hd
    simp only [qx_act] at ha
    split at ha
    · rename_i h9
      obtain rfl := qx_go_inj ha
      exact lv_aload_n hx hb hd rfl (qx_lv_get hl h9) (kk H locs lsA hW hS hl hn)
    · rename_i h9
      obtain rfl := qx_go_inj ha
      exact lv_aload_nN hx hb hd rfl (qx_lv_get hl h9) (kk H locs lsA hW hS hl hn)
    · cases ha
  | istore n =>
    obtain rfl : np = pc + 2 := by simpa [qx_isT, qx_len] using hlen
    rw [Nat.add_sub_cancel_left] at hd
    simp only [qx_act] at ha
    split at ha
    · unfold qx_sI at ha
      split at ha
      · rename_i h9
        obtain rfl := qx_go_inj ha
        exact lv_istore hx hb hd hl (by rw [← hn]; exact h9.1) rfl (fun ls' h' => kk H locs ls' hW hS (qx_lv_set h9.2 h9.1 h') (by simpa using hn))
      · cases ha
    · cases ha
  | istore_n n =>
    obtain rfl : np = pc + 1 := by simpa [qx_isT, qx_len] using hlen
    rw [Nat.add_sub_cancel_left] at hd
    simp only [qx_act] at ha
    split at ha
    · unfold qx_sI at ha
      split at ha
      · rename_i h9
        obtain rfl := qx_go_inj ha
        exact lv_istore_n hx hb hd rfl hl (by rw [← hn]; exact h9.1) rfl (fun ls' h' => kk H locs ls' hW hS (qx_lv_set h9.2 h9.1 h') (by simpa using hn))
      · cases ha
    · cases ha
  | fstore n =>
    obtain rfl : np = pc + 2 := by simpa [qx_isT, qx_len] using hlen
    rw [Nat.add_sub_cancel_left] at hd
    simp only [qx_act] at ha
    split at ha
    · unfold qx_sI at ha
      split at ha
      · rename_i h9
        obtain rfl := qx_go_inj ha
        exact lv_fstore hx hb hd hl (by rw [← hn]; exact h9.1) rfl (fun ls' h' => kk H locs ls' hW hS (qx_lv_set h9.2 h9.1 h') (by simpa using hn))
      · cases ha
    · cases ha
  | astore n =>
    obtain rfl : np = pc + 2 := by simpa [qx_isT, qx_len] using hlen
    rw [Nat.add_sub_cancel_left] at hd
    simp only [qx_act] at ha
    split at ha
    · unfold qx_sI at ha
      split at ha
      · rename_i h9
        obtain rfl := qx_go_inj ha
        exact lv_astore hx hb hd hl (by rw [← hn]; exact h9.1) rfl (fun ls' h' => kk H locs ls' hW hS (qx_lv_set h9.2 h9.1 h') (by simpa using hn))
      · cases ha
    · unfold qx_sI at ha
      split at ha
      · rename_i h9
        obtain rfl := qx_go_inj ha
        exact lv_astoreN hx hb hd hl (by rw [← hn]; exact h9.1) rfl (fun ls' h' => kk H locs ls' hW hS (qx_lv_set h9.2 h9.1 h') (by simpa using hn))
      · cases ha
    · cases ha
  | astore_n n =>
    obtain rfl : np = pc + 1 := by simpa [qx_isT, qx_len] using hlen
    rw [Nat.add_sub_cancel_left] at hd
    simp only [qx_act] at ha
    split at ha
    · unfold qx_sI at ha
      split at ha
      · rename_i h9
        obtain rfl := qx_go_inj ha
        exact lv_astore_n hx hb hd rfl hl (by rw [← hn]; exact h9.1) rfl (fun ls' h' => kk H locs ls' hW hS (qx_lv_set h9.2 h9.1 h') (by simpa using hn))
      · cases ha
    · unfold qx_sI at ha
      split at ha
      · rename_i h9
        obtain rfl := qx_go_inj ha
        exact lv_astore_nN hx hb hd rfl hl (by rw [← hn]; exact h9.1) rfl (fun ls' h' => kk H locs ls' hW hS (qx_lv_set h9.2 h9.1 h') (by simpa using hn))
      · cases ha
    · cases ha
  | lstore n =>
    obtain rfl : np = pc + 2 := by simpa [qx_isT, qx_len] using hlen
    rw [Nat.add_sub_cancel_left] at hd
    simp only [qx_act] at ha
    split at ha
    · unfold qx_s2 at ha
      split at ha
      · rename_i h9
        obtain rfl := qx_go_inj ha
        exact lv_lstore hx hb hd hl (by rw [← hn]; exact h9.1) rfl (fun ls' h' => kk H locs ls' hW hS (qx_lv_set2 h9.2 h9.1 h') (by simpa using hn))
      · cases ha
    · cases ha
  | dstore n =>
    obtain rfl : np = pc + 2 := by simpa [qx_isT, qx_len] using hlen
    rw [Nat.add_sub_cancel_left] at hd
    simp only [qx_act] at ha
    split at ha
    · unfold qx_s2 at ha
      split at ha
      · rename_i h9
        obtain rfl := qx_go_inj ha
        exact lv_dstore hx hb hd hl (by rw [← hn]; exact h9.1) rfl (fun ls' h' => kk H locs ls' hW hS (qx_lv_set2 h9.2 h9.1 h') (by simpa using hn))
      · cases ha
    · cases ha
  | iadd =>
    obtain rfl : np = pc + 1 := by simpa [qx_isT, qx_len] using hlen
    rw [Nat.add_sub_cancel_left] at hd
    simp only [qx_act] at ha
    split at ha
    · obtain rfl := qx_go_inj ha
      exact lv_iadd hx hb hd (kk H locs lsA hW hS hl hn)
    · cases ha
  | isub =>
    obtain rfl : np = pc + 1 := by simpa [qx_isT, qx_len] using hlen
    rw [Nat.add_sub_cancel_left] at hd
    simp only [qx_act] at ha
    split at ha
    · obtain rfl := qx_go_inj ha
      exact lv_isub hx hb hd (kk H locs lsA hW hS hl hn)
    · cases ha
  | imul =>
    obtain rfl : np = pc + 1 := by simpa [qx_isT, qx_len] using hlen
    rw [Nat.add_sub_cancel_left] at hd
    simp only [qx_act] at ha
    split at ha
    · obtain rfl := qx_go_inj ha
      exact lv_imul hx hb hd (kk H locs lsA hW hS hl hn)
    · cases ha
  | iand =>
    obtain rfl : np = pc + 1 := by simpa [qx_isT, qx_len] using hlen
    rw [Nat.add_sub_cancel_left] at hd
    simp only [qx_act] at ha
    split at ha
    · obtain rfl := qx_go_inj ha
      exact lv_iand hx hb hd (kk H locs lsA hW hS hl hn)
    · cases ha
  | ior =>
    obtain rfl : np = pc + 1 := by simpa [qx_isT, qx_len] using hlen
    rw [Nat.add_sub_cancel_left] at hd
    simp only [qx_act] at ha
    split at ha
    · obtain rfl := qx_go_inj ha
      exact lv_ior hx hb hd (kk H locs lsA hW hS hl hn)
    · cases ha
  | ixor =>
    obtain rfl : np = pc + 1 := by simpa [qx_isT, qx_len] using hlen
    rw [Nat.add_sub_cancel_left] at hd
    simp only [qx_act] at ha
    split at ha
    · obtain rfl := qx_go_inj ha
      exact lv_ixor hx hb hd (kk H locs lsA hW hS hl hn)
    · cases ha
  | ishl =>
    obtain rfl : np = pc + 1 := by simpa [qx_isT, qx_len] using hlen
    rw [Nat.add_sub_cancel_left] at hd
    simp only [qx_act] at ha
    split at ha
    · obtain rfl := qx_go_inj ha
      exact lv_ishl hx hb hd (kk H locs lsA hW hS hl hn)
    · cases ha
  | ishr =>
    obtain rfl : np = pc + 1 := by simpa [qx_isT, qx_len] using hlen
    rw [Nat.add_sub_cancel_left] at hd
    simp only [qx_act] at ha
    split at ha
    · obtain rfl := qx_go_inj ha
      exact lv_ishr hx hb hd (kk H locs lsA hW hS hl hn)
    · cases ha
  | ineg =>
    obtain rfl : np = pc + 1 := by simpa [qx_isT, qx_len] using hlen
    rw [Nat.add_sub_cancel_left] at hd
    simp only [qx_act] at ha
    split at ha
    · obtain rfl := qx_go_inj ha
      exact lv_ineg hx hb hd (kk H locs lsA hW hS hl hn)
    · cases ha
  | i2d =>
    obtain rfl : np = pc + 1 := by simpa [qx_isT, qx_len] using hlen
    rw [Nat.add_sub_cancel_left] at hd
    simp only [qx_act] at ha
    split at ha
    · obtain rfl := qx_go_inj ha
      exact lv_i2d hx hb hd (kk H locs lsA hW hS hl hn)
    · cases ha
  | i2f =>
    obtain rfl : np = pc + 1 := by simpa [qx_isT, qx_len] using hlen
    rw [Nat.add_sub_cancel_left] at hd
    simp only [qx_act] at ha
    split at ha
    · obtain rfl := qx_go_inj ha
      exact lv_i2f hx hb hd (kk H locs lsA hW hS hl hn)
    · cases ha
  | lcmp =>
    obtain rfl : np = pc + 1 := by simpa [qx_isT, qx_len] using hlen
    rw [Nat.add_sub_cancel_left] at hd
    simp only [qx_act] at ha
    split at ha
    · obtain rfl := qx_go_inj ha
      exact W.lcmp hx hb hd (kk H locs lsA hW hS hl hn)
    · cases ha
  | iushr =>
    obtain rfl : np = pc + 1 := by simpa [qx_isT, qx_len] using hlen
    rw [Nat.add_sub_cancel_left] at hd
    simp only [qx_act] at ha
    split at ha
    · obtain rfl := qx_go_inj ha
      exact lv_iushr hx hb hd rfl (kk H locs lsA hW hS hl hn)
    · cases ha
  | i2b =>
    obtain rfl : np = pc + 1 := by simpa [qx_isT, qx_len] using hlen
    rw [Nat.add_sub_cancel_left] at hd
    simp only [qx_act] at ha
    split at ha
    · obtain rfl := qx_go_inj ha
      exact lv_i2b hx hb hd rfl (kk H locs lsA hW hS hl hn)
    · cases ha
  | i2c =>
    obtain rfl : np = pc + 1 := by simpa [qx_isT, qx_len] using hlen
    rw [Nat.add_sub_cancel_left] at hd
    simp only [qx_act] at ha
    split at ha
    · obtain rfl := qx_go_inj ha
      exact lv_i2c hx hb hd rfl (kk H locs lsA hW hS hl hn)
    · cases ha
  | i2l =>
    obtain rfl : np = pc + 1 := by simpa [qx_isT, qx_len] using hlen
    rw [Nat.add_sub_cancel_left] at hd
    simp only [qx_act] at ha
    split at ha
    · obtain rfl := qx_go_inj ha
      exact lv_i2l hx hb hd rfl (kk H locs lsA hW hS hl hn)
    · cases ha
  | dcmp n =>
    obtain rfl : np = pc + 1 := by simpa [qx_isT, qx_len] using hlen
    rw [Nat.add_sub_cancel_left] at hd
    simp only [qx_act] at ha
    split at ha
    · obtain rfl := qx_go_inj ha
      exact lv_dcmp hx hb hd (kk H locs lsA hW hS hl hn)
    · cases ha
  | fcmp n =>
    obtain rfl : np = pc + 1 := by simpa [qx_isT, qx_len] using hlen
    rw [Nat.add_sub_cancel_left] at hd
    simp only [qx_act] at ha
    split at ha
    · obtain rfl := qx_go_inj ha
      exact lv_fcmp hx hb hd (kk H locs lsA hW hS hl hn)
    · cases ha
  | idiv =>
    obtain rfl : np = pc + 1 := by simpa [qx_isT, qx_len] using hlen
    rw [Nat.add_sub_cancel_left] at hd
    simp only [qx_act] at ha
    split at ha
    · split at ha
      · cases ha
      · rename_i h9
        obtain rfl := qx_go_inj ha
        exact lv_idiv hx hb hd h9 (kk H locs lsA hW hS hl hn)
    · cases ha
  | irem =>
    obtain rfl : np = pc + 1 := by simpa [qx_isT, qx_len] using hlen
    rw [Nat.add_sub_cancel_left] at hd
    simp only [qx_act] at ha
    split at ha
    · split at ha
      · cases ha
      · rename_i h9
        obtain rfl := qx_go_inj ha
        exact lv_irem hx hb hd h9 (kk H locs lsA hW hS hl hn)
    · cases ha
  | ddiv =>
    obtain rfl : np = pc + 1 := by simpa [qx_isT, qx_len] using hlen
    rw [Nat.add_sub_cancel_left] at hd
    simp only [qx_act] at ha
    split at ha
    · split at ha
      · rename_i h9
        obtain rfl := qx_go_inj ha
        exact lv_ddiv hx hb hd h9 (kk H locs lsA hW hS hl hn)
      · cases ha
    · cases ha
  | fdiv =>
    obtain rfl : np = pc + 1 := by simpa [qx_isT, qx_len] using hlen
    rw [Nat.add_sub_cancel_left] at hd
    simp only [qx_act] at ha
    split at ha
    · split at ha
      · rename_i h9
        obtain rfl := qx_go_inj ha
        exact lv_fdiv hx hb hd h9 (kk H locs lsA hW hS hl hn)
      · cases ha
    · cases ha
  | f2d =>
    obtain rfl : np = pc + 1 := by simpa [qx_isT, qx_len] using hlen
    rw [Nat.add_sub_cancel_left] at hd
    simp only [qx_act] at ha
    split at ha
    · split at ha
      · rename_i h9
        obtain rfl := qx_go_inj ha
        exact lv_f2d hx hb hd h9 (kk H locs lsA hW hS hl hn)
      · cases ha
    · cases ha
  | dup =>
    obtain rfl : np = pc + 1 := by simpa [qx_isT, qx_len] using hlen
    rw [Nat.add_sub_cancel_left] at hd
    simp only [qx_act] at ha
    split at ha
    · obtain rfl := qx_go_inj ha
      exact lv_dup hx hb hd rfl (kk H locs lsA hW hS hl hn)
    · obtain rfl := qx_go_inj ha
      exact lv_dup hx hb hd rfl (kk H locs lsA hW hS hl hn)
    · cases ha
  | pop =>
    obtain rfl : np = pc + 1 := by simpa [qx_isT, qx_len] using hlen
    rw [Nat.add_sub_cancel_left] at hd
    simp only [qx_act] at ha
    split at ha
    · obtain rfl := qx_go_inj ha
      exact lv_pop hx hb hd rfl (kk H locs lsA hW hS hl hn)
    · obtain rfl := qx_go_inj ha
      exact lv_pop hx hb hd rfl (kk H locs lsA hW hS hl hn)
    · cases ha
  | dup2 =>
    obtain rfl : np = pc + 1 := by simpa [qx_isT, qx_len] using hlen
    rw [Nat.add_sub_cancel_left] at hd
    simp only [qx_act] at ha
    split at ha
    · obtain rfl := qx_go_inj ha
      exact lv_dup2_11 hx hb hd rfl rfl (kk H locs lsA hW hS hl hn)
    · cases ha
  | goto n =>
    obtain rfl : np = pc + 3 := by simpa [qx_isT, qx_len] using hlen
    rw [Nat.add_sub_cancel_left] at hd
    simp only [qx_act] at ha
    obtain rfl := qx_go_inj ha
    exact lv_goto hx hb hd (of_decide_eq_true ok) (kk H locs lsA hW hS hl hn)
  | ifnull n =>
    obtain rfl : np = pc + 3 := by simpa [qx_isT, qx_len] using hlen
    rw [Nat.add_sub_cancel_left] at hd
    simp only [qx_act] at ha
    split at ha
    · obtain rfl := qx_go_inj ha
      exact lv_ifnull hx hb hd (kk H locs lsA hW hS hl hn)
    · obtain rfl := qx_go_inj ha
      exact lv_ifnullN hx hb hd (of_decide_eq_true ok) (kk H locs lsA hW hS hl hn)
    · cases ha
  | ifCond k n =>
    obtain rfl : np = pc + 3 := by simpa [qx_isT, qx_len] using hlen
    rw [Nat.add_sub_cancel_left] at hd
    simp only [qx_act] at ha
    split at ha
    · split at ha
      · exact lv_if_eq hx hb hd (of_decide_eq_true ok) (fun h9 => by rw [if_pos h9] at ha; obtain rfl := qx_go_inj ha; exact kk H locs lsA hW hS hl hn) (fun h9 => by rw [if_neg h9] at ha; obtain rfl := qx_go_inj ha; exact kk H locs lsA hW hS hl hn)
      · exact lv_if_ne hx hb hd (of_decide_eq_true ok) (fun h9 => by rw [if_neg h9] at ha; obtain rfl := qx_go_inj ha; exact kk H locs lsA hW hS hl hn) (fun h9 => by rw [if_pos h9] at ha; obtain rfl := qx_go_inj ha; exact kk H locs lsA hW hS hl hn)
      · exact lv_if_lt hx hb hd (of_decide_eq_true ok) (fun h9 => by rw [if_pos h9] at ha; obtain rfl := qx_go_inj ha; exact kk H locs lsA hW hS hl hn) (fun h9 => by rw [if_neg h9] at ha; obtain rfl := qx_go_inj ha; exact kk H locs lsA hW hS hl hn)
      · exact lv_if_ge hx hb hd (of_decide_eq_true ok) (fun h9 => by rw [if_pos h9] at ha; obtain rfl := qx_go_inj ha; exact kk H locs lsA hW hS hl hn) (fun h9 => by rw [if_neg h9] at ha; obtain rfl := qx_go_inj ha; exact kk H locs lsA hW hS hl hn)
      · exact lv_if_gt hx hb hd (of_decide_eq_true ok) (fun h9 => by rw [if_pos h9] at ha; obtain rfl := qx_go_inj ha; exact kk H locs lsA hW hS hl hn) (fun h9 => by rw [if_neg h9] at ha; obtain rfl := qx_go_inj ha; exact kk H locs lsA hW hS hl hn)
      · exact lv_if_le hx hb hd (of_decide_eq_true ok) (fun h9 => by rw [if_pos h9] at ha; obtain rfl := qx_go_inj ha; exact kk H locs lsA hW hS hl hn) (fun h9 => by rw [if_neg h9] at ha; obtain rfl := qx_go_inj ha; exact kk H locs lsA hW hS hl hn)
    · cases ha
  | if_icmp k n =>
    obtain rfl : np = pc + 3 := by simpa [qx_isT, qx_len] using hlen
    rw [Nat.add_sub_cancel_left] at hd
    simp only [qx_act] at ha
    split at ha
    · split at ha
      · exact lv_icmp_eq hx hb hd (of_decide_eq_true ok) (fun h9 => by rw [if_pos h9] at ha; obtain rfl := qx_go_inj ha; exact kk H locs lsA hW hS hl hn) (fun h9 => by rw [if_neg h9] at ha; obtain rfl := qx_go_inj ha; exact kk H locs lsA hW hS hl hn)
      · exact lv_icmp_ne hx hb hd (of_decide_eq_true ok) (fun h9 => by rw [if_neg h9] at ha; obtain rfl := qx_go_inj ha; exact kk H locs lsA hW hS hl hn) (fun h9 => by rw [if_pos h9] at ha; obtain rfl := qx_go_inj ha; exact kk H locs lsA hW hS hl hn)
      · exact lv_icmp_lt hx hb hd (of_decide_eq_true ok) (fun h9 => by rw [if_pos h9] at ha; obtain rfl := qx_go_inj ha; exact kk H locs lsA hW hS hl hn) (fun h9 => by rw [if_neg h9] at ha; obtain rfl := qx_go_inj ha; exact kk H locs lsA hW hS hl hn)
      · exact lv_icmp_ge hx hb hd (of_decide_eq_true ok) (fun h9 => by rw [if_pos h9] at ha; obtain rfl := qx_go_inj ha; exact kk H locs lsA hW hS hl hn) (fun h9 => by rw [if_neg h9] at ha; obtain rfl := qx_go_inj ha; exact kk H locs lsA hW hS hl hn)
      · exact lv_icmp_gt hx hb hd (of_decide_eq_true ok) (fun h9 => by rw [if_pos h9] at ha; obtain rfl := qx_go_inj ha; exact kk H locs lsA hW hS hl hn) (fun h9 => by rw [if_neg h9] at ha; obtain rfl := qx_go_inj ha; exact kk H locs lsA hW hS hl hn)
      · exact lv_icmp_le hx hb hd (of_decide_eq_true ok) (fun h9 => by rw [if_pos h9] at ha; obtain rfl := qx_go_inj ha; exact kk H locs lsA hW hS hl hn) (fun h9 => by rw [if_neg h9] at ha; obtain rfl := qx_go_inj ha; exact kk H locs lsA hW hS hl hn)
    · cases ha
  | _ => first
    | (exfalso; simp [qx_mem] at hno; done)
    | (exfalso; simp [qx_act] at ha; done)
    | (exfalso; simp only [qx_act] at ha; repeat' split at ha
       all_goals simp at ha)
end QXN
