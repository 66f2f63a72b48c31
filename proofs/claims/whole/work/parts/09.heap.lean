/-! The instructions that read and write the heap, switch, or call what is no method of the three classes. -/
theorem qx_max_in : Cond.static Lib.Math.max.name ∈ qx_gts ∧ Cond.initialized "java/lang/Math" ∈ qx_gts ∧ Cond.code Lib.Math.max.name Lib.Math.max.code 2 (some .int) ∈ qx_gts ∧ Cond.static Lib.Math.min.name ∈ qx_gts ∧ Cond.code Lib.Math.min.name Lib.Math.min.code 2 (some .int) ∈ qx_gts := by
  have h : ([Cond.static Lib.Math.max.name, Cond.initialized "java/lang/Math", Cond.code Lib.Math.max.name Lib.Math.max.code 2 (some .int), Cond.static Lib.Math.min.name, Cond.code Lib.Math.min.name Lib.Math.min.code 2 (some .int)].all fun w => goodWord w && decide (w ∈ lw_tbl)) = true := by decide +kernel
  simp only [List.all_cons, Bool.and_eq_true, decide_eq_true_eq, List.all_nil] at h
  exact ⟨List.mem_filter.mpr ⟨h.1.2, h.1.1⟩, List.mem_filter.mpr ⟨h.2.1.2, h.2.1.1⟩, List.mem_filter.mpr ⟨h.2.2.1.2, h.2.2.1.1⟩, List.mem_filter.mpr ⟨h.2.2.2.1.2, h.2.2.2.1.1⟩, List.mem_filter.mpr ⟨h.2.2.2.2.1.2, h.2.2.2.2.1.1⟩⟩
theorem qx_cpy_in : Cond.native arraycopyName ∈ qx_gts ∧ Cond.static arraycopyName ∈ qx_gts ∧ Cond.initialized "java/lang/System" ∈ qx_gts := by
  have h : ([Cond.native arraycopyName, Cond.static arraycopyName, Cond.initialized "java/lang/System"].all fun w => goodWord w && decide (w ∈ lw_tbl)) = true := by decide +kernel
  simp only [List.all_cons, Bool.and_eq_true, decide_eq_true_eq, List.all_nil] at h
  exact ⟨List.mem_filter.mpr ⟨h.1.2, h.1.1⟩, List.mem_filter.mpr ⟨h.2.1.2, h.2.1.1⟩, List.mem_filter.mpr ⟨h.2.2.1.2, h.2.2.1.1⟩⟩
section QXH
variable {p : Program} {l : Launch} {e : Env} {R : Room} {s : State} {m : MethodId} {args : Array Value} {below : List Frame} {meth : Method} {c : Code} {H : Heap} {locs : List Loc} {cells slots : Nat} {Q : State → Prop}
set_option maxHeartbeats 4000000 in
theorem qx_heap {L : Nat} {xs : Nat → Int32} {D : va_G} {ad : Nat → Nat} {cy : Nat → ClassId} {own : String} {cc : ByteArray} {mx : Nat} {rt : Option FieldType} {A : Nat → Prop} {lsA : Array Slot} {ls : qxL} {st : List Value} {M : qxM} {pc np a b w : Nat} {ins : Instr} {q : Nat × qxL × List Value × qxM}
    (hno : qx_mem ins = true) (F : qx_F p s m args meth c own cc mx rt) (ok : qx_okE own cc (pc, ins, np, a, b, w) = true) (hV : qx_V D ad cy s) (hK : qx_K L xs ad A s s.heap) (hB : qx_B l L xs D ad cy) (hA : ∀ q, s.heap.size ≤ q → A q) (hR : 8 ≤ R.frames ∧ 200 ≤ R.locals ∧ cells ≤ R.cells ∧ slots ≤ R.slots)
    (hW : qx_W D ad cy A M H) (hS : va_S A s.heap H locs) (hl : lv_has lsA mx (qx_lv ad 0 ls)) (hn : ls.length = mx) (ha : qx_act L xs rt (pc, ins, np, a, b, w) ls st M = some (.inl q))
    (kk : ∀ (H1 : Heap) (locs1 : List Loc) (lsA1 : Array Slot), qx_W D ad cy A q.2.2.2 H1 → va_S A s.heap H1 locs1 → lv_has lsA1 mx (qx_lv ad 0 q.2.1) → q.2.1.length = mx → W p l e R s m args below meth c H1 locs1 cells slots Q (F0 m q.1 lsA1 (q.2.2.1.map (qx_rv ad)))) :
    W p l e R s m args below meth c H locs cells slots Q (F0 m pc lsA (st.map (qx_rv ad))) := by
  have F0 := F
  obtain ⟨hx, hb, hr, hml, hown, hts, hlocks⟩ := F
  unfold qx_okE at ok
  simp only [Bool.and_eq_true, decide_eq_true_eq, Bool.or_eq_true] at ok
  obtain ⟨hd, hpc, hlen, ok⟩ := ok
  cases ins with
  | dconst n =>
    obtain rfl : np = pc + 1 := by simpa [qx_isT, qx_len] using hlen
    rw [Nat.add_sub_cancel_left] at hd
    obtain rfl | rfl : n = 0 ∨ n = 1 := by
      match n with
      | 0 => exact Or.inl rfl
      | 1 => exact Or.inr rfl
    · obtain rfl := qx_go_inj (show qx_go (pc + 1) ls (.double FP.dconst0 :: st) M = some (.inl q) from ha)
      exact lv_dconst0 hx hb hd (kk H locs lsA hW hS hl hn)
    · simp [qx_act] at ha
  | fconst n =>
    obtain rfl : np = pc + 1 := by simpa [qx_isT, qx_len] using hlen
    rw [Nat.add_sub_cancel_left] at hd
    obtain rfl | rfl | rfl : n = 0 ∨ n = 1 ∨ n = 2 := by
      match n with
      | 0 => exact Or.inl rfl
      | 1 => exact Or.inr (Or.inl rfl)
      | 2 => exact Or.inr (Or.inr rfl)
    · obtain rfl := qx_go_inj (show qx_go (pc + 1) ls (.float FP.fconst0 :: st) M = some (.inl q) from ha)
      exact lv_fconst0 hx hb hd (kk H locs lsA hW hS hl hn)
    · simp [qx_act] at ha
    · simp [qx_act] at ha
  | ldc n =>
    obtain rfl : np = pc + 2 := by simpa [qx_isT, qx_len] using hlen
    rw [Nat.add_sub_cancel_left] at hd
    simp only [qx_act] at ha
    cases b with
    | zero =>
      dsimp only at ha ok
      obtain rfl := qx_go_inj ha
      exact lv_ldc hx hb hown (hts _ (qx_wd_in ok)) hd (kk H locs lsA hW hS hl hn)
    | succ b =>
      dsimp only at ha ok
      cases ht : qx_tx[a]? with
      | none => rw [ht] at ok; cases ok
      | some t =>
        rw [ht] at ok
        simp only [Bool.and_eq_true, decide_eq_true_eq] at ok
        obtain rfl := qx_go_inj ha
        refine va_ldcS hx hb hown (tx := t.2.2) ?_ hd (kk H locs lsA hW hS hl hn)
        have h9 := hV.2.2.1 a t ht
        rw [ok.1, ok.2] at h9
        exact h9
  | ldc_w n =>
    obtain rfl : np = pc + 3 := by simpa [qx_isT, qx_len] using hlen
    rw [Nat.add_sub_cancel_left] at hd
    simp only [qx_act] at ha
    cases b with
    | zero =>
      dsimp only at ha ok
      obtain rfl := qx_go_inj ha
      exact lv_ldcw hx hb hown (hts _ (qx_wd_in ok)) hd (kk H locs lsA hW hS hl hn)
    | succ b =>
      dsimp only at ha ok
      cases ha
  | iinc i n =>
    obtain rfl : np = pc + 3 := by simpa [qx_isT, qx_len] using hlen
    rw [Nat.add_sub_cancel_left] at hd
    simp only [qx_act] at ha
    split at ha
    · rename_i x h9
      unfold qx_sI at ha
      split at ha
      · rename_i h8
        obtain rfl := qx_go_inj ha
        obtain ⟨z, hz⟩ := List.getElem?_of_mem ((qx_lv_mem (ad := ad) ls 0 (i, .int x)).mpr ⟨i, .int x, h9, by simp [qx_rv]⟩)
        exact lv_iinc hx hb hd hl hz rfl (by rw [← hn]; exact h8.1) rfl (fun ls' h' => kk H locs ls' hW hS (qx_lv_set (v := .int (x + Int32.ofInt n)) h8.2 h8.1 h') (by simpa using hn))
      · cases ha
    · cases ha
  | tableswitch d lo hi offs =>
    simp only [qx_act] at ha
    split at ha
    · rename_i x st'
      split at ha
      · rename_i h9
        split at ha
        · rename_i h8
          obtain rfl := qx_go_inj ha
          exact lv_tableOut hx hb hd h9 (Int.toNat_of_nonneg h8).symm (kk H locs lsA hW hS hl hn)
        · cases ha
      · rename_i h9
        split at ha
        · rename_i o ho
          split at ha
          · rename_i h8
            obtain rfl := qx_go_inj ha
            exact lv_tableIn hx hb hd (fun z => h9 (Or.inl z)) (fun z => h9 (Or.inr z)) ho (Int.toNat_of_nonneg h8).symm (kk H locs lsA hW hS hl hn)
          · cases ha
        · cases ha
    · cases ha
  | arraylength =>
    obtain rfl : np = pc + 1 := by simpa [qx_isT, qx_len] using hlen
    rw [Nat.add_sub_cancel_left] at hd
    simp only [qx_act] at ha
    split at ha
    · rename_i i st'
      split at ha
      · rename_i t n h8
        obtain rfl := qx_go_inj ha
        obtain ⟨z, hz⟩ := qx_sh_at h8
        obtain ⟨ty, hty⟩ := qx_ty6 (cy := cy) (List.mem_of_getElem? hz)
        exact va_alen hx hb hV.1 hW.1 z t (qx_ws_at hz) hty rfl hd (kk H locs lsA hW hS hl hn)
      · split at ha
        · rename_i h9
          subst h9
          obtain rfl := qx_go_inj ha
          exact va_slen hx hb hK.1 hK.2.1 hK.2.2.1 hS hd (kk H locs lsA hW hS hl hn)
        · cases ha
    · cases ha
  | iaload =>
    obtain rfl : np = pc + 1 := by simpa [qx_isT, qx_len] using hlen
    rw [Nat.add_sub_cancel_left] at hd
    simp only [qx_act] at ha
    split at ha
    · rename_i j i st'
      split at ha
      · rename_i n h8
        split at ha
        · cases ha
        · rename_i h7
          obtain rfl := qx_go_inj ha
          obtain ⟨z, hz⟩ := qx_sh_at h8
          exact va_iald hx hb hV.1 hW.1 z 0 (qx_ws_at (ad := ad) (cy := cy) (M := M) hz) rfl h7 hd (kk H locs lsA hW hS hl hn)
      · split at ha
        · rename_i h9
          subst h9
          split at ha
          · cases ha
          · rename_i h7
            obtain rfl := qx_go_inj ha
            exact va_sld hx hb hK.1 hK.2.1 hK.2.2.1 hS h7 hd (kk H locs lsA hW hS hl hn)
        · cases ha
    · cases ha
  | baload =>
    obtain rfl : np = pc + 1 := by simpa [qx_isT, qx_len] using hlen
    rw [Nat.add_sub_cancel_left] at hd
    simp only [qx_act] at ha
    split at ha
    · rename_i j i st'
      split at ha
      · rename_i n h8
        split at ha
        · cases ha
        · rename_i h7
          obtain rfl := qx_go_inj ha
          obtain ⟨z, hz⟩ := qx_sh_at h8
          exact va_bald hx hb hV.1 hW.1 z 1 (qx_ws_at (ad := ad) (cy := cy) (M := M) hz) rfl h7 hd (kk H locs lsA hW hS hl hn)
      · rename_i n h8
        split at ha
        · cases ha
        · rename_i h7
          obtain rfl := qx_go_inj ha
          obtain ⟨z, hz⟩ := qx_sh_at h8
          exact va_zald hx hb hV.1 hW.1 z 2 (qx_ws_at (ad := ad) (cy := cy) (M := M) hz) rfl h7 hd (kk H locs lsA hW hS hl hn)
      · cases ha
    · cases ha
  | laload =>
    obtain rfl : np = pc + 1 := by simpa [qx_isT, qx_len] using hlen
    rw [Nat.add_sub_cancel_left] at hd
    simp only [qx_act] at ha
    split at ha
    · rename_i j i st'
      split at ha
      · rename_i n h8
        split at ha
        · cases ha
        · rename_i h7
          obtain rfl := qx_go_inj ha
          obtain ⟨z, hz⟩ := qx_sh_at h8
          exact va_lald hx hb hV.1 hW.1 z 4 (qx_ws_at (ad := ad) (cy := cy) (M := M) hz) rfl h7 hd (kk H locs lsA hW hS hl hn)
      · cases ha
    · cases ha
  | daload =>
    obtain rfl : np = pc + 1 := by simpa [qx_isT, qx_len] using hlen
    rw [Nat.add_sub_cancel_left] at hd
    simp only [qx_act] at ha
    split at ha
    · rename_i j i st'
      split at ha
      · rename_i n h8
        split at ha
        · cases ha
        · rename_i h7
          obtain rfl := qx_go_inj ha
          obtain ⟨z, hz⟩ := qx_sh_at h8
          exact va_dald hx hb hV.1 hW.1 z 5 (qx_ws_at (ad := ad) (cy := cy) (M := M) hz) rfl h7 hd (kk H locs lsA hW hS hl hn)
      · cases ha
    · cases ha
  | aaload =>
    obtain rfl : np = pc + 1 := by simpa [qx_isT, qx_len] using hlen
    rw [Nat.add_sub_cancel_left] at hd
    simp only [qx_act] at ha
    split at ha
    · rename_i j i st'
      split at ha
      · rename_i n h8
        split at ha
        · cases ha
        · rename_i h7
          obtain rfl := qx_go_inj ha
          obtain ⟨z, hz⟩ := qx_sh_at h8
          exact va_aldq hx hb hV.1 hW.1 z 3 (qx_ws_at (ad := ad) (cy := cy) (M := M) hz) rfl h7 hd (kk H locs lsA hW hS hl hn)
      · cases ha
    · cases ha
  | iastore =>
    obtain rfl : np = pc + 1 := by simpa [qx_isT, qx_len] using hlen
    rw [Nat.add_sub_cancel_left] at hd
    simp only [qx_act] at ha
    split at ha
    · rename_i x j i st'
      split at ha
      · rename_i n h8
        split at ha
        · cases ha
        · rename_i h7
          obtain rfl := qx_go_inj ha
          obtain ⟨z, hz⟩ := qx_sh_at h8
          refine va_iast hx hb hV.1 hW.1 hW.2 hS z 0 (qx_ws_at (ad := ad) (cy := cy) (M := M) hz) rfl h7 hd (fun H1 locs1 g1 g2 g3 => ?_)
          have e9 := qx_ws_set (ad := ad) (cy := cy) (M := M) (M' := qx_up M i j.toNatClampNeg x) hz (qx_row_up (Or.inl rfl)) (fun y sp _ hy => qx_cell_up sp hy)
          rw [e9] at g1 g2
          exact kk H1 locs1 lsA ⟨g1, g2⟩ g3 hl hn
      · cases ha
    · cases ha
  | bastore =>
    obtain rfl : np = pc + 1 := by simpa [qx_isT, qx_len] using hlen
    rw [Nat.add_sub_cancel_left] at hd
    simp only [qx_act] at ha
    split at ha
    · rename_i x j i st'
      split at ha
      · rename_i n h8
        split at ha
        · cases ha
        · rename_i h7
          obtain rfl := qx_go_inj ha
          obtain ⟨z, hz⟩ := qx_sh_at h8
          refine va_bast hx hb hV.1 hW.1 hW.2 hS z 1 (qx_ws_at (ad := ad) (cy := cy) (M := M) hz) rfl h7 hd (fun H1 locs1 g1 g2 g3 => ?_)
          have e9 := qx_ws_set (ad := ad) (cy := cy) (M := M) (M' := qx_up M i j.toNatClampNeg x.toInt8.toInt32) hz (qx_row_up (Or.inr (Or.inl rfl))) (fun y sp _ hy => qx_cell_up sp hy)
          rw [vp_nar_byte] at g1 g2
          rw [e9] at g1 g2
          exact kk H1 locs1 lsA ⟨g1, g2⟩ g3 hl hn
      · rename_i n h8
        split at ha
        · cases ha
        · rename_i h7
          split at ha
          · rename_i h6
            obtain rfl := qx_go_inj ha
            obtain ⟨z, hz⟩ := qx_sh_at h8
            refine va_zast hx hb hV.1 hW.1 hW.2 hS z 2 (qx_ws_at (ad := ad) (cy := cy) (M := M) hz) rfl h7 hd (fun H1 locs1 g1 g2 g3 => ?_)
            have e8 : vp_nar .boolean x = x := by rcases h6 with rfl | rfl <;> decide
            rw [e8] at g1 g2
            have e9 := qx_ws_set (ad := ad) (cy := cy) (M := M) (M' := qx_up M i j.toNatClampNeg x) hz (qx_row_up (Or.inr (Or.inr rfl))) (fun y sp _ hy => qx_cell_up sp hy)
            rw [e9] at g1 g2
            exact kk H1 locs1 lsA ⟨g1, g2⟩ g3 hl hn
          · cases ha
      · cases ha
    · cases ha
  | lastore =>
    obtain rfl : np = pc + 1 := by simpa [qx_isT, qx_len] using hlen
    rw [Nat.add_sub_cancel_left] at hd
    simp only [qx_act] at ha
    split at ha
    · rename_i x j i st'
      split at ha
      · rename_i n h8
        split at ha
        · cases ha
        · rename_i h7
          obtain rfl := qx_go_inj ha
          obtain ⟨z, hz⟩ := qx_sh_at h8
          refine va_last hx hb hV.1 hW.1 hW.2 hS z 4 (qx_ws_at (ad := ad) (cy := cy) (M := M) hz) rfl h7 hd (fun H1 locs1 g1 g2 g3 => ?_)
          have hi2 : i = 2 := (qx_sole _ (List.mem_of_getElem? hz)).2.2.1 n rfl
          have e9 : (qx_ws ad cy M).set z (ad i, .inl (cy 4, n, .inr (.inl (vp_updL M.2.1 j.toNatClampNeg x)))) = qx_ws ad cy (qx_lu M j.toNatClampNeg x) := qx_ws_set (ad := ad) (cy := cy) (M := M) (M' := qx_lu M j.toNatClampNeg x) hz rfl (fun y sp hm hy => qx_cell_lu hm (by rw [hi2] at hy; exact hy))
          rw [e9] at g1 g2
          exact kk H1 locs1 lsA ⟨g1, g2⟩ g3 hl hn
      · cases ha
    · cases ha
  | dastore =>
    obtain rfl : np = pc + 1 := by simpa [qx_isT, qx_len] using hlen
    rw [Nat.add_sub_cancel_left] at hd
    simp only [qx_act] at ha
    split at ha
    · rename_i x j i st'
      split at ha
      · rename_i n h8
        split at ha
        · cases ha
        · rename_i h7
          obtain rfl := qx_go_inj ha
          obtain ⟨z, hz⟩ := qx_sh_at h8
          refine va_dast hx hb hV.1 hW.1 hW.2 hS z 5 (qx_ws_at (ad := ad) (cy := cy) (M := M) hz) rfl h7 hd (fun H1 locs1 g1 g2 g3 => ?_)
          have hi2 : i = 3 := (qx_sole _ (List.mem_of_getElem? hz)).2.2.2 n rfl
          have e9 : (qx_ws ad cy M).set z (ad i, .inl (cy 5, n, .inr (.inr (.inr (.inl (vf_upd M.2.2 j.toNatClampNeg x)))))) = qx_ws ad cy (qx_du M j.toNatClampNeg x) := qx_ws_set (ad := ad) (cy := cy) (M := M) (M' := qx_du M j.toNatClampNeg x) hz rfl (fun y sp hm hy => qx_cell_du hm (by rw [hi2] at hy; exact hy))
          rw [e9] at g1 g2
          exact kk H1 locs1 lsA ⟨g1, g2⟩ g3 hl hn
      · cases ha
    · cases ha
  | getfield n =>
    obtain rfl : np = pc + 3 := by simpa [qx_isT, qx_len] using hlen
    rw [Nat.add_sub_cancel_left] at hd
    simp only [qx_act] at ha
    split at ha
    · rename_i i st'
      split at ha
      · rename_i h9
        obtain ⟨z, hz⟩ := qx_sh_at h9
        cases hcl : vwCl[a]? with
        | none => simp [hcl] at ok
        | some cl =>
          simp only [hcl, Bool.and_eq_true, decide_eq_true_eq] at ok
          obtain ⟨hk, hw⟩ := ok
          have hnf : qx_nf a = cl.2.2 := by unfold qx_nf; rw [hcl]
          have hfs : ((List.range (qx_nf a)).map (qx_fv ad M i a))[b]? = some (qx_fv ad M i a b) := by rw [List.getElem?_map, List.getElem?_range (by rw [hnf]; exact hk)]; rfl
          refine va_get (D := D) (ci := a) (v := qx_fv ad M i a b) (C := cl.1) (T := cl.2.1) (N := cl.2.2) hx hb hts (qx_lays cl (List.mem_of_getElem? hcl)) hown hV.1 hW.1 z (qx_ws_at hz) hcl b hk (hts _ (qx_wd_in hw)) (fun _ h8 => h8) hfs hd ?_
          split at ha
          · rename_i h7
            obtain rfl := qx_go_inj ha
            have e9 : qx_fv ad M i a b = .int (M.1 i b) := by unfold qx_fv; rw [h7]
            rw [e9]
            exact kk H locs lsA hW hS hl hn
          · rename_i o h7
            obtain rfl := qx_go_inj ha
            have e9 : qx_fv ad M i a b = .ref (ad (i + o)) := by unfold qx_fv; rw [h7]
            rw [e9]
            exact kk H locs lsA hW hS hl hn
      · cases ha
    · cases ha
  | putfield n =>
    obtain rfl : np = pc + 3 := by simpa [qx_isT, qx_len] using hlen
    rw [Nat.add_sub_cancel_left] at hd
    simp only [qx_act] at ha
    split at ha
    · rename_i x i st'
      split at ha
      · rename_i h9
        obtain ⟨h9, h8, h7⟩ := h9
        obtain rfl := qx_go_inj ha
        obtain ⟨z, hz⟩ := qx_sh_at h9
        cases hcl : vwCl[a]? with
        | none => simp [hcl] at ok
        | some cl =>
          simp only [hcl, h8, Option.isSome_none, Bool.false_or, Bool.and_eq_true, Bool.or_eq_true, decide_eq_true_eq] at ok
          obtain ⟨hk, hw, hfin, hty⟩ := ok
          have hnf : qx_nf a = cl.2.2 := by unfold qx_nf; rw [hcl]
          obtain ⟨⟨ty0, hty0⟩, hnm⟩ := qx_cls a cl hcl
          have hlen : b < ((List.range (qx_nf a)).map (qx_fv ad M i a)).length := by simp [hnf]; exact hk
          have hall : ∃ ty : FieldType, parseFieldDescriptor (cl.2.1 b).2.2.1 = some ty ∧ narrow ty (.int x) = .int x ∧ fits ty (.int x) = true := by
            rcases hty with hI | ⟨hZ, hbf⟩
            · exact ⟨.int, by rw [hI]; decide +kernel, rfl, rfl⟩
            · rcases h7 hbf with rfl | rfl
              · exact ⟨.boolean, by rw [hZ]; decide +kernel, by decide, by decide⟩
              · exact ⟨.boolean, by rw [hZ]; decide +kernel, by decide, by decide⟩
          obtain ⟨ty, q1, q2, q3⟩ := hall
          refine va_put (D := D) (ci := a) (v := .int x) (ty := ty) (C := cl.1) (T := cl.2.1) (N := cl.2.2) hx hb hts (qx_lays cl (List.mem_of_getElem? hcl)) ty0 hty0 hnm hown hV.1 hW.1 hW.2 hS z (qx_ws_at hz) hcl b hk (hts _ (qx_wd_in hw)) (fun _ h8 => h8) hfin q1 q2 q3 hlen hd (fun H1 locs1 g1 g2 g3 => ?_)
          have e9 := qx_ws_set (ad := ad) (cy := cy) (M := M) (M' := qx_up M i b x) hz (qx_fv_set hcl hk h8) (fun y sp _ hy => qx_cell_up sp hy)
          rw [e9] at g1 g2
          exact kk H1 locs1 lsA ⟨g1, g2⟩ g3 hl hn
      · cases ha
    · cases ha
  | invokevirtual n =>
    obtain rfl : np = pc + 3 := by simpa [qx_isT, qx_len] using hlen
    rw [Nat.add_sub_cancel_left] at hd
    simp only [qx_act] at ha
    split at ha
    · dsimp only at ok
      split at ha
      · rename_i i st'
        split at ha
        · rename_i h9
          obtain ⟨h9, h8⟩ := h9
          obtain rfl := qx_go_inj ha
          obtain ⟨i2, hi2⟩ : ∃ i2 : Nat, i2 = i := ⟨i, rfl⟩
          have h9 : 501 ≤ i2 ∧ i2 ≤ 505 ∨ 521 ≤ i2 ∧ i2 < 526 := by rw [hi2]; exact h9
          obtain ⟨k, hk9⟩ : ∃ k : Nat, i2 = 500 + k := ⟨i2 - 500, by omega⟩
          rw [hk9] at hi2 h9
          subst hi2
          have h5 : 500 + k - 500 = k := by omega
          have hk : k < 26 := by omega
          obtain ⟨t, ht⟩ : ∃ t, qx_tx[k]? = some t := ⟨_, List.getElem?_eq_getElem (show k < qx_tx.length from hk)⟩
          have h6 := hB p e R s m args below meth c H locs cells slots Q own cc mx rt A lsA (st'.map (qx_rv ad)) pc n k t F0 hV hK hS hA hl.1 hR.1 hR.2.1 hR.2.2.1 hR.2.2.2 (qx_sum4 ad st' 4 h8) ht (by omega) hd
          rw [h5] at kk
          exact h6.1 (qx_wd_in ok) (fun H1 locs1 e1 e2 => by subst e1; exact kk _ locs1 lsA hW e2 hl hn)
        · cases ha
      · cases ha
    · dsimp only at ok
      split at ha
      · rename_i j i st'
        split at ha
        · rename_i h9
          obtain ⟨h9, h8, h7⟩ := h9
          obtain rfl := qx_go_inj ha
          obtain ⟨i2, hi2⟩ : ∃ i2 : Nat, i2 = i := ⟨i, rfl⟩
          have h9 : 501 ≤ i2 ∧ i2 ≤ 505 ∨ 521 ≤ i2 ∧ i2 < 526 := by rw [hi2]; exact h9
          obtain ⟨k, hk9⟩ : ∃ k : Nat, i2 = 500 + k := ⟨i2 - 500, by omega⟩
          rw [hk9] at hi2 h9
          subst hi2
          have h5 : 500 + k - 500 = k := by omega
          have hk : k < 26 := by omega
          obtain ⟨t, ht⟩ : ∃ t, qx_tx[k]? = some t := ⟨_, List.getElem?_eq_getElem (show k < qx_tx.length from hk)⟩
          have h6 := hB p e R s m args below meth c H locs cells slots Q own cc mx rt A lsA (st'.map (qx_rv ad)) pc n k t F0 hV hK hS hA hl.1 hR.1 hR.2.1 hR.2.2.1 hR.2.2.2 (qx_sum4 ad st' 4 h8) ht (by omega) hd
          rw [h5] at kk h7
          exact h6.2 j h7 (qx_wd_in ok) (fun H1 locs1 e1 e2 => by subst e1; exact kk _ locs1 lsA hW e2 hl hn)
        · cases ha
      · cases ha
    · split at ha <;> simp at ha
  | invokestatic n =>
    obtain rfl : np = pc + 3 := by simpa [qx_isT, qx_len] using hlen
    rw [Nat.add_sub_cancel_left] at hd
    simp only [qx_act] at ha
    split at ha
    · dsimp only at ok
      split at ha
      · rename_i y x st'
        split at ha
        · rename_i h9
          obtain rfl := qx_go_inj ha
          have h8 := qx_sum4 ad st' 4 h9
          exact va_mmax hx hb (hml.trans hl.1.symm) hown (hts _ (qx_wd_in ok)) (hts _ qx_max_in.1) (hts _ qx_max_in.2.1) (hts _ qx_max_in.2.2.1) (by omega) (by omega) hR.2.2.1 hR.2.2.2 hd (kk H locs lsA hW hS hl hn)
        · cases ha
      · cases ha
    · dsimp only at ok
      split at ha
      · rename_i y x st'
        split at ha
        · rename_i h9
          obtain rfl := qx_go_inj ha
          have h8 := qx_sum4 ad st' 4 h9
          exact va_mmin hx hb (hml.trans hl.1.symm) hown (hts _ (qx_wd_in ok)) (hts _ qx_max_in.2.2.2.1) (hts _ qx_max_in.2.1) (hts _ qx_max_in.2.2.2.2) (by omega) (by omega) hR.2.2.1 hR.2.2.2 hd (kk H locs lsA hW hS hl hn)
        · cases ha
      · cases ha
    · dsimp only at ok
      split at ha
      · rename_i nn dp i sp i0 st'
        split at ha
        · rename_i n0 n1 h9 h8
          split at ha
          · rename_i h7
            obtain ⟨g1, g2, g3, g4, g5, g6⟩ := h7
            obtain rfl := qx_go_inj ha
            obtain ⟨z0, hz0⟩ := qx_sh_at h9
            obtain ⟨z, hz⟩ := qx_sh_at h8
            have h6 := qx_sum4 ad st' 4 g6
            have h5 : nativeFrameWords "java/lang/System" "arraycopy" 5 = 7 := by decide
            refine va_copyi (ty := .int) hx hb (hml.trans hl.1.symm) hown (hts _ (qx_wd_in ok)) (hts _ qx_cpy_in.1) (hts _ qx_cpy_in.2.1) (hts _ qx_cpy_in.2.2) hV.1 hW.1 hW.2 hS z0 z 0 0 (qx_ws_at (ad := ad) (cy := cy) (M := M) hz0) (qx_ws_at (ad := ad) (cy := cy) (M := M) hz) rfl rfl rfl g1 g2 g3 g4 g5 (fun _ _ => rfl) (by omega) (by omega) hd (fun H1 locs1 q1 q2 q3 => ?_)
            have e9 : (qx_ws ad cy M).set z (ad i, .inl (cy 0, n1, .inl (va_cpy (M.1 i0) (M.1 i) sp.toNatClampNeg dp.toNatClampNeg nn.toNatClampNeg))) = qx_ws ad cy (qx_ur M i (va_cpy (M.1 i0) (M.1 i) sp.toNatClampNeg dp.toNatClampNeg nn.toNatClampNeg)) := qx_ws_set hz (by unfold qx_cell qx_row qx_ur; simp) (fun y sp _ hy => qx_cell_ur sp hy)
            rw [e9] at q1 q2
            exact kk H1 locs1 lsA ⟨q1, q2⟩ q3 hl hn
          · cases ha
        · cases ha
      · cases ha
    · split at ha <;> simp at ha
  | _ => exact absurd hno (by simp [qx_mem])
end QXH
