/-! Ends of methods, throws, contracts, calls. -/
def qx_exN : List String := ["java/lang/RuntimeException", "java/lang/Exception"]
def qx_exR (a : Nat) : List Jvm.Cond := (Bundle.throwableAtoms ++ Bundle.throwableSAtoms ++ Bundle.chainSAtoms (qx_ex a) qx_exN ++
  ([.instantiable (qx_ex a) 6, .castable (qx_ex a) (qx_ex a), .selects (qx_ex a) Bundle.tFill0 Bundle.tFill0, .selects (qx_ex a) Bundle.tFill Bundle.tFill,
   .lays (qx_ex a) Bundle.tN "cause" "Ljava/lang/Throwable;", .lays (qx_ex a) Bundle.tN "stackTrace" Bundle.steD, .lays (qx_ex a) Bundle.tN "suppressedExceptions" Bundle.listD, .lays (qx_ex a) Bundle.tN "detailMessage" "Ljava/lang/String;",
   .isRef (.static Bundle.tN "UNASSIGNED_STACK" Bundle.steD), .isRef (.static Bundle.tN "SUPPRESSED_SENTINEL" Bundle.listD),
   .fieldLink Bundle.tN 198 Bundle.tN "backtrace" "Ljava/lang/Object;", .lays Bundle.tN Bundle.tN "backtrace" "Ljava/lang/Object;", .lays (qx_ex a) Bundle.tN "backtrace" "Ljava/lang/Object;"] : List Jvm.Cond)).filter vx_no
theorem qx_exR_ok : ∀ a, a < 3 → (qx_exR a).all (fun w => decide (w ∈ lw_tbl) && (goodWord w || qx_nk w)) = true := by decide +kernel
theorem qx_ex_in {a : Nat} {own : String} {ic : Nat} (ha : a < 3) {w : Jvm.Cond} (hw : w ∈ vx_atS own ic (qx_ex a) qx_exN) : w = .methodLink own ic (Bundle.initS (qx_ex a)) ∨ (w ∈ lw_tbl ∧ (goodWord w = true ∨ qx_nk w = true)) := by
  unfold vx_atS at hw
  obtain ⟨h1, h2⟩ := List.mem_filter.mp hw
  unfold Bundle.ownAtoms at h1
  have h3 : w = .methodLink own ic (Bundle.initS (qx_ex a)) ∨ w ∈ qx_exR a := by
    rcases List.mem_append.mp h1 with h | h
    · exact Or.inr (List.mem_filter.mpr ⟨List.mem_append_left _ h, h2⟩)
    · rcases List.mem_cons.mp h with h | h
      · exact Or.inl h
      · exact Or.inr (List.mem_filter.mpr ⟨List.mem_append_right _ h, h2⟩)
  rcases h3 with h3 | h3
  · exact Or.inl h3
  · have h4 := List.all_eq_true.mp (qx_exR_ok a ha) w h3
    simp only [Bool.and_eq_true, decide_eq_true_eq, Bool.or_eq_true] at h4
    exact Or.inr h4
theorem qx_nk_tab {w : Jvm.Cond} (h : qx_nk w = true) : w.onTables = true := by
  cases w <;> first | rfl | (simp [qx_nk] at h)
theorem qx_ot {w : Jvm.Cond} (h : goodWord w = true ∨ qx_nk w = true) : vx_ot w = true := by
  unfold vx_ot
  rcases h with h | h
  · rw [h, Bool.or_true]
  · rw [qx_nk_tab h, Bool.true_or]
theorem qx_gt_good {w : Jvm.Cond} (h : w ∈ qx_gts) : goodWord w = true := (List.mem_filter.mp h).2
theorem qx_ini_in : ∀ a, a < 3 → Cond.initialized (qx_ex a) ∈ qx_gts := by
  have h : ∀ a, a < 3 → (goodWord (Cond.initialized (qx_ex a)) && decide (Cond.initialized (qx_ex a) ∈ lw_tbl)) = true := by decide +kernel
  intro a ha
  have h1 := h a ha
  simp only [Bool.and_eq_true, decide_eq_true_eq] at h1
  exact List.mem_filter.mpr ⟨h1.2, h1.1⟩
theorem qx_ex_fit : ∀ a, a < 3 → Bundle.fit (qx_ex a) = true := by decide +kernel
theorem qx_exN_fit : ∀ n ∈ qx_exN, Bundle.fit n = true := by decide +kernel
/-- which return gives which value -/
def qx_rok (rt : Option FieldType) (ins : Instr) (v : Option Value) : Prop :=
  (∃ x : Int32, v = some (.int x) ∧ ins = .ireturn ∧ (rt = some .int ∨ rt = some .boolean ∧ (x = 0 ∨ x = 1))) ∨ (∃ x : Int64, v = some (.long x) ∧ ins = .lreturn ∧ rt = some .long) ∨ (∃ x : UInt64, v = some (.double x) ∧ ins = .dreturn ∧ rt = some .double) ∨
  (∃ x : UInt32, v = some (.float x) ∧ ins = .freturn ∧ rt = some .float) ∨ (∃ (i : Nat) (n : String), v = some (.ref i) ∧ ins = .areturn ∧ rt = some (.object n)) ∨ (v = none ∧ ins = .return_ ∧ rt = none)
theorem qx_ret_act {L : Nat} {xs : Nat → Int32} {own : String} {cc : ByteArray} {rt : Option FieldType} {pc np a b w : Nat} {ins : Instr} {ls : qxL} {st : List Value} {M : qxM} {v : Option Value}
    (ok : qx_okE own cc (pc, ins, np, a, b, w) = true) (ha : qx_act L xs rt (pc, ins, np, a, b, w) ls st M = some (.inr (.inl v))) : st = v.toList ∧ decode cc pc = .ok (ins, 1) ∧ qx_rok rt ins v := by
  unfold qx_okE at ok
  simp only [Bool.and_eq_true, decide_eq_true_eq, Bool.or_eq_true] at ok
  obtain ⟨hd, hpc, hlen, ok⟩ := ok
  cases ins with
  | ireturn =>
    obtain rfl : np = pc + 1 := by simpa [qx_isT, qx_len] using hlen
    rw [Nat.add_sub_cancel_left] at hd
    simp only [qx_act] at ha
    split at ha
    · split at ha
      · cases ha
        exact ⟨rfl, hd, Or.inl ⟨_, rfl, rfl, Or.inl rfl⟩⟩
      · split at ha
        · rename_i h9
          cases ha
          exact ⟨rfl, hd, Or.inl ⟨_, rfl, rfl, Or.inr ⟨rfl, h9⟩⟩⟩
        · cases ha
      · cases ha
    · cases ha
  | lreturn =>
    obtain rfl : np = pc + 1 := by simpa [qx_isT, qx_len] using hlen
    rw [Nat.add_sub_cancel_left] at hd
    simp only [qx_act] at ha
    split at ha
    · split at ha
      · rename_i h9
        cases ha
        exact ⟨rfl, hd, Or.inr (Or.inl ⟨_, rfl, rfl, h9⟩)⟩
      · cases ha
    · cases ha
  | dreturn =>
    obtain rfl : np = pc + 1 := by simpa [qx_isT, qx_len] using hlen
    rw [Nat.add_sub_cancel_left] at hd
    simp only [qx_act] at ha
    split at ha
    · split at ha
      · rename_i h9
        cases ha
        exact ⟨rfl, hd, Or.inr (Or.inr (Or.inl ⟨_, rfl, rfl, h9⟩))⟩
      · cases ha
    · cases ha
  | freturn =>
    obtain rfl : np = pc + 1 := by simpa [qx_isT, qx_len] using hlen
    rw [Nat.add_sub_cancel_left] at hd
    simp only [qx_act] at ha
    split at ha
    · split at ha
      · rename_i h9
        cases ha
        exact ⟨rfl, hd, Or.inr (Or.inr (Or.inr (Or.inl ⟨_, rfl, rfl, h9⟩)))⟩
      · cases ha
    · cases ha
  | areturn =>
    obtain rfl : np = pc + 1 := by simpa [qx_isT, qx_len] using hlen
    rw [Nat.add_sub_cancel_left] at hd
    simp only [qx_act] at ha
    split at ha
    · split at ha
      · cases ha
        exact ⟨rfl, hd, Or.inr (Or.inr (Or.inr (Or.inr (Or.inl ⟨_, _, rfl, rfl, rfl⟩))))⟩
      · cases ha
    · cases ha
  | return_ =>
    obtain rfl : np = pc + 1 := by simpa [qx_isT, qx_len] using hlen
    rw [Nat.add_sub_cancel_left] at hd
    simp only [qx_act] at ha
    split at ha
    · split at ha
      · rename_i h9
        cases ha
        exact ⟨rfl, hd, Or.inr (Or.inr (Or.inr (Or.inr (Or.inr ⟨rfl, rfl, h9⟩))))⟩
      · cases ha
    · cases ha
  | dconst n =>
    obtain rfl | rfl : n = 0 ∨ n = 1 := by
      match n with
      | 0 => exact Or.inl rfl
      | 1 => exact Or.inr rfl
    all_goals simp [qx_act, qx_go] at ha
  | fconst n =>
    obtain rfl | rfl | rfl : n = 0 ∨ n = 1 ∨ n = 2 := by
      match n with
      | 0 => exact Or.inl rfl
      | 1 => exact Or.inr (Or.inl rfl)
      | 2 => exact Or.inr (Or.inr rfl)
    all_goals simp [qx_act, qx_go] at ha
  | _ =>
    exfalso
    simp only [qx_act, qx_go, qx_sI, qx_s2] at ha
    repeat' split at ha
    all_goals first | (cases ha; done) | (simp at ha; done)

section QXC
variable {p : Program} {l : Launch} {e : Env} {R : Room} {s : State} {m : MethodId} {args : Array Value} {below : List Frame} {meth : Method} {c : Code} {H : Heap} {locs : List Loc} {cells slots : Nat} {Q : State → Prop}
theorem qx_end {own : String} {cc : ByteArray} {mx : Nat} {rt : Option FieldType} {ad : Nat → Nat} {pc : Nat} {ins : Instr} {v : Option Value} {lsA : Array Slot} {Qc : Array Value → State → Outcome → State → Prop} {free : Addr → Prop}
    (F : qx_F p s m args meth c own cc mx rt) (hd : decode cc pc = .ok (ins, 1)) (hv : qx_rok rt ins v) (hq : ∀ t : State, t.heap = H → s.WarmedH t.vm → Qc args s (.returned (v.map (qx_rv ad))) t) (hf : ∀ q ∈ locs, free q.base) :
    W p l e R s m args below meth c H locs cells slots (MQ below Qc args s cells slots free) (F0 m pc lsA (v.toList.map (qx_rv ad))) := by
  obtain ⟨hx, hb, hr, hml, hown, hts, hlocks⟩ := F
  rcases hv with ⟨x, rfl, rfl, hrt⟩ | ⟨x, rfl, rfl, hrt⟩ | ⟨x, rfl, rfl, hrt⟩ | ⟨x, rfl, rfl, hrt⟩ | ⟨i, n, rfl, rfl, hrt⟩ | ⟨rfl, rfl, hrt⟩
  · rcases hrt with hrt | ⟨hrt, hx01⟩
    · exact W.iret hx hb (hr.trans hrt) hq hf hd hlocks
    · exact W.zret (ty := .boolean) hx hb (hr.trans hrt) (by rcases hx01 with rfl | rfl <;> decide) hq hf hd hlocks
  · exact W.lret hx hb (hr.trans hrt) hq hf hd hlocks
  · exact W.dret hx hb (hr.trans hrt) hq hf hd hlocks
  · exact W.fret hx hb (hr.trans hrt) hq hf hd hlocks
  · exact W.aret hx hb (hr.trans hrt) (Or.inl ⟨n, rfl⟩) (Or.inr ⟨_, rfl⟩) hq hf hd hlocks
  · exact W.vret hx hb (hr.trans hrt) hq hf hd hlocks
theorem qx_words {own : String} {D : va_G} {ad : Nat → Nat} {cy : Nat → ClassId} {a ic : Nat} (ha : a < 3) (hts : ∀ w ∈ qx_gts, w.before args s = true) (hV : qx_V D ad cy s) (hm : Cond.methodLink own ic (Bundle.initS (qx_ex a)) ∈ qx_gts) : ∀ w ∈ vx_atS own ic (qx_ex a) qx_exN, w.before args s = true := by
  intro w hw
  rcases qx_ex_in ha hw with h | ⟨h1, h2 | h2⟩
  · rw [h]; exact hts _ hm
  · exact hts _ (List.mem_filter.mpr ⟨h1, h2⟩)
  · exact va_Nw.use (qx_nk_tab h2) (hV.2.1 w h1 h2)
/-- an exception made and thrown here -/
theorem qx_throw {L : Nat} {xs : Nat → Int32} {D : va_G} {ad : Nat → Nat} {cy : Nat → ClassId} {own : String} {cc : ByteArray} {mx : Nat} {rt : Option FieldType} {A : Nat → Prop} {lsA : Array Slot} {pc np a b w n mc ms : Nat} {Qc : Array Value → State → Outcome → State → Prop} {XC : String → State → State → Prop} {free : Addr → Prop}
    (F : qx_F p s m args meth c own cc mx rt) (ok : qx_okE own cc (pc, .new n, np, a, b, w) = true) (ha : a < 3) (hflags : l.stackTraces = false) (hV : qx_V D ad cy s) (hK : qx_K L xs ad A s s.heap) (hR : 8 ≤ R.frames ∧ 200 ≤ R.locals)
    (hS : va_S A s.heap H locs) (hl : lsA.size = mx) (hh : c.exceptionTable.toList = []) (hcR : cells + 1 ≤ R.cells) (hsR : slots + 6 ≤ R.slots)
    (hXC : ∀ t : State, s.vm.Alike t.vm → H.size ≤ t.heap.size → (∀ q : Nat, q < H.size → t.heap[q]? = H[q]?) → XC (qx_ex a) s t) (hf : ∀ z ∈ locs, free z.base) (hc : cells + 1 ≤ mc) (hs : slots + 6 ≤ ms) :
    W p l e R s m args below meth c H locs cells slots (vx_MQ below Qc XC args s mc ms free) (F0 m pc lsA []) := by
  obtain ⟨hx, hb, hr, hml, hown, hts, hlocks⟩ := F
  unfold qx_okE at ok
  simp only [Bool.and_eq_true, decide_eq_true_eq, Bool.or_eq_true] at ok
  obtain ⟨hd, hpc, hlen, hcl, hthr⟩ := ok
  obtain rfl : np = pc + 3 := by simpa [qx_isT, qx_len] using hlen
  rw [Nat.add_sub_cancel_left] at hd
  have hout : ∀ k : Nat, ∀ x ∈ c.exceptionTable.toList, covers x k = false := by
    intro k x hx9
    rw [hh] at hx9
    cases hx9
  unfold qx_thr at hthr
  simp only [Bool.and_eq_true, decide_eq_true_eq] at hthr
  obtain ⟨hdup, hthr⟩ := hthr
  have hclw := qx_wd_in hcl
  have hini := qx_ini_in a ha
  split at hthr
  · rename_i is hldc
    simp only [Bool.and_eq_true, decide_eq_true_eq] at hthr
    obtain ⟨⟨htx, hcal⟩, hath⟩ := hthr
    cases htt : qx_tx[b]? with
    | none => rw [htt] at htx; cases htx
    | some t =>
      rw [htt] at htx
      simp only [Bool.and_eq_true, decide_eq_true_eq] at htx
      split at hcal
      · rename_i ic hinv
        have hmw := qx_wd_in hcal
        have hstr := hV.2.2.1 b t htt
        rw [htx.1, htx.2] at hstr
        refine vx_throwS (names := qx_exN) hx hb hflags hown (qx_ex_fit a ha) qx_exN_fit (hts _ hclw) (hts _ hini) hstr (qx_words ha hts hV hmw) ?_ hK.2.2.2.1 hK.2.2.2.2.1 hS (hl.trans hml.symm) hd hdup hldc hinv hath (hout _) (by show 2 + 3 < R.frames; omega) (by show 0 + (13 * (2 + 1) + 43) ≤ R.locals; omega) hcR hsR hlocks hXC hf hc hs
        intro w9 hw9
        rcases List.mem_cons.mp hw9 with h | h
        · rw [h]; exact qx_ot (Or.inl (qx_gt_good hclw))
        · rcases List.mem_cons.mp h with h | h
          · rw [h]; exact qx_ot (Or.inl (qx_gt_good hini))
          · rcases qx_ex_in ha h with h | h
            · rw [h]; exact qx_ot (Or.inl (qx_gt_good hmw))
            · exact qx_ot h.2
      · cases hcal
  · rename_i is hldc
    simp only [Bool.and_eq_true, decide_eq_true_eq] at hthr
    obtain ⟨⟨htx, hcal⟩, hath⟩ := hthr
    cases htt : qx_tx[b]? with
    | none => rw [htt] at htx; cases htx
    | some t =>
      rw [htt] at htx
      simp only [Bool.and_eq_true, decide_eq_true_eq] at htx
      split at hcal
      · rename_i ic hinv
        have hmw := qx_wd_in hcal
        have hstr := hV.2.2.1 b t htt
        rw [htx.1, htx.2] at hstr
        refine vx_throwSW (names := qx_exN) hx hb hflags hown (qx_ex_fit a ha) qx_exN_fit (hts _ hclw) (hts _ hini) hstr (qx_words ha hts hV hmw) ?_ hK.2.2.2.1 hK.2.2.2.2.1 hS (hl.trans hml.symm) hd hdup hldc hinv hath (hout _) (by show 2 + 3 < R.frames; omega) (by show 0 + (13 * (2 + 1) + 43) ≤ R.locals; omega) hcR hsR hlocks hXC hf hc hs
        intro w9 hw9
        rcases List.mem_cons.mp hw9 with h | h
        · rw [h]; exact qx_ot (Or.inl (qx_gt_good hclw))
        · rcases List.mem_cons.mp h with h | h
          · rw [h]; exact qx_ot (Or.inl (qx_gt_good hini))
          · rcases qx_ex_in ha h with h | h
            · rw [h]; exact qx_ot (Or.inl (qx_gt_good hmw))
            · exact qx_ot h.2
      · cases hcal
  · cases hthr
/-- behind a call that returns -/
theorem qx_back {D : va_G} {ad : Nat → Nat} {cy : Nat → ClassId} {A0 A1 : Nat → Prop} {H0 : Heap} {M1 : qxM} {v9 : Option Value} {pc mc ms : Nat} {lsA : Array Slot} {st0 rest : List Value}
    (hr : va_Run p l e R s m args below meth c H locs cells slots mc ms (F0 m pc lsA st0) rest (fun st o t => o = .returned v9 ∧ va_P D vwCl (qx_ws ad cy M1) t.heap ∧ va_F A1 st t) A1) (hS : va_S A0 H0 H locs) (hA : ∀ q, A1 q → A0 q)
    (kk : ∀ (H1 : Heap) (locs1 : List Loc), va_P D vwCl (qx_ws ad cy M1) H1 → va_S A0 H0 H1 locs1 → W p l e R s m args below meth c H1 locs1 (cells + mc) (slots + ms) Q (F0 m (pc + 3) lsA (v9.toList ++ rest))) :
    W p l e R s m args below meth c H locs cells slots Q (F0 m pc lsA st0) := by
  intro T hT X
  obtain ⟨v, st₀, t, T', L, h0, X', hL, e1, e2, ⟨hv, hp, hz, hk⟩, st⟩ := hr T hT X
  cases hv
  rw [h0] at hz hk
  obtain ⟨t2, a1, b1⟩ := kk T'.heap (locs ++ L) (by rw [e1]; exact hp)
    ⟨Nat.le_trans hS.1 (by rw [e1]; exact hz), fun q h1 h2 => by rw [e1, hk q (Nat.lt_of_lt_of_le h1 hS.1) (fun z => h2 (hA q z))]; exact hS.2.1 q h1 h2, fun q hq => by
      rcases List.mem_append.mp hq with h | h
      · exact hS.2.2 q h
      · exact hA _ (hL q h)⟩ T' rfl X'
  exact ⟨t2, st t2 a1, b1⟩
/-- behind a call that throws -/
theorem qx_backX {D : va_G} {ad : Nat → Nat} {cy : Nat → ClassId} {A0 A1 : Nat → Prop} {H0 : Heap} {M1 : qxM} {E9 : String} {pc mc ms : Nat} {lsA : Array Slot} {st0 rest : List Value}
    (hr : vx_Run p l e R s m args below meth c H locs cells slots mc ms (F0 m pc lsA st0) rest (fun _ _ _ => False) (fun E st t => E = E9 ∧ va_P D vwCl (qx_ws ad cy M1) t.heap ∧ va_F A1 st t) A1) (hS : va_S A0 H0 H locs) (hA : ∀ q, A1 q → A0 q)
    (kx : ∀ (ce : Cell) (q9 : Addr) (H1 : Heap) (locs1 : List Loc), va_P D vwCl (qx_ws ad cy M1) H1 → va_S A0 H0 H1 locs1 → H1[q9]? = some ce → ce.vm = .none → s.vm.findClass E9 = some ce.cls → vx_W p l e R s m args below meth c H1 locs1 (cells + mc) (slots + ms) Q (F0 m pc lsA rest) q9) :
    W p l e R s m args below meth c H locs cells slots Q (F0 m pc lsA st0) := by
  intro T hT X
  rcases hr T hT X with ⟨v, st₀, t, T', L, h0, X', hL, e1, e2, hv, st⟩ | ⟨q, st₀, t, T', L, E, ce, h0, X', hL, e1, e2, ⟨rfl, hp, hz, hk⟩, hce, hcv, hcl, st⟩
  · exact hv.elim
  · rw [h0] at hz hk
    obtain ⟨t2, a1, b1⟩ := kx ce q T'.heap (locs ++ L) (by rw [e1]; exact hp)
      ⟨Nat.le_trans hS.1 (by rw [e1]; exact hz), fun q h1 h2 => by rw [e1, hk q (Nat.lt_of_lt_of_le h1 hS.1) (fun z => h2 (hA q z))]; exact hS.2.1 q h1 h2, fun q hq => by
        rcases List.mem_append.mp hq with h | h
        · exact hS.2.2 q h
        · exact hA _ (hL q h)⟩ (by rw [e1]; exact hce) hcv hcl T' rfl X'
    exact ⟨t2, st.trans a1, b1⟩
end QXC
