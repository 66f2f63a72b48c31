/-! The texts' two methods, String.length and String.charAt. -/
section QXT
def qx_No : Nat → Prop := fun _ => False
def qx_TF (a b n : Nat) (f : Nat → Int32) (v : Value) (U : State) : Prop :=
  va_O RJ0 a qx_No U U.heap ∧ va_OF RJ0 "coder" "B" (.int 0) a qx_No U U.heap ∧ va_OF RJ0 "value" "[B" (.ref b) a qx_No U U.heap ∧ va_T .byte b n (fun j => .int (f j)) qx_No U U.heap ∧ va_Z RJ0 "COMPACT_STRINGS" "Z" (.int 1) qx_No U U.heap ∧ va_Z RJ3 "SIOOBE_FORMATTER" "Ljava/util/function/BiFunction;" v qx_No U U.heap ∧ (v = .null ∨ ∃ a, v = .ref a)
theorem qx_TF.moved {a b n : Nat} {f : Nat → Int32} {v : Value} {u U : State} (hvm : u.vm.Alike U.vm) (hh : U.heap = u.heap) (h : qx_TF a b n f v u) : qx_TF a b n f v U := by
  obtain ⟨h1, h2, h3, h4, h5, h6, h7⟩ := h
  unfold qx_TF
  rw [hh]
  exact ⟨h1.moved hvm, h2.moved hvm, h3.moved hvm, h4.moved hvm, h5.moved hvm, h6.moved hvm, h7⟩
theorem qx_tf_blind {a b n : Nat} {f : Nat → Int32} {v : Value} {av : List Value} : FrameBlind (va_Pc av (qx_TF a b n f v)) := by
  intro as U g mk h
  exact ⟨h.1, qx_TF.moved (u := U) (Vm.Alike.refl U.vm) rfl h.2⟩
theorem qx_tf_at {a b n : Nat} {f : Nat → Int32} {v : Value} {s : State} {H : Heap} {av : List Value} (hh : H = s.heap) (h : qx_TF a b n f v s) : ∀ U : State, U.heap = H → s.WarmedH U.vm → va_Pc av (qx_TF a b n f v) av.toArray U :=
  fun U hU hW => ⟨rfl, h.moved hW.alike (hU.trans hh)⟩
theorem qx_in {w : Jvm.Cond} (h : (goodWord w && decide (w ∈ lw_tbl)) = true) : w ∈ qx_gts := by
  simp only [Bool.and_eq_true, decide_eq_true_eq] at h
  exact List.mem_filter.mpr ⟨h.2, h.1⟩
theorem qx_gin_of {ws : List Jvm.Cond} (h : (ws.all fun w => goodWord w && decide (w ∈ lw_tbl)) = true) : GoodIn qx_gts (ws ++ qx_gts) := qx_good_all (by
  intro w hw
  rcases List.mem_append.mp hw with hw | hw
  · exact qx_in (List.all_eq_true.mp h w hw)
  · exact hw)
def qx_tm (d : Nat) : Room := { frames := d, cells := 0, slots := 0, locals := 30 * d }
variable {l : Launch} {a b n : Nat} {f : Nat → Int32} {v : Value}
/-- what a text's method leaves -/
def qx_Tq (o : Option Value) : Array Value → State → Outcome → State → Prop := fun _ st oc t => oc = .returned o ∧ t.heap = st.heap
abbrev qx_TM (l : Launch) (y : MethodName) (cc : ByteArray) (mx : Nat) (rt : Option FieldType) (d : Nat) (av : List Value) (B : State → Prop) (o : Option Value) : Prop :=
  Met l y (Cond.code y cc mx rt :: qx_gts) (qx_tm d) (va_Pc av B) (qx_Tq o) 0 0 qx_No
theorem qx_ofT {y : MethodName} {cc : ByteArray} {mx d : Nat} {rt : Option FieldType} {av : List Value} {o : Option Value} (hy : plainName y.cls = true) (hc : (av.all fun v => v.category == 1) = true) (hn : av.length ≤ mx)
    (body : ∀ p e s m args below meth c lsA, qx_F p s m args meth c y.cls cc mx rt → qx_TF a b n f v s → lv_has lsA mx (qx_lv id 0 (qx_en mx av)) →
      W p l e (qx_tm d) s m args below meth c s.heap [] 0 0 (MQ below (qx_Tq o) args s 0 0 qx_No) (F0 m 0 lsA [])) : qx_TM l y cc mx rt d av (qx_TF a b n f v) o := by
  refine qx_ofM (hh := []) (cc := cc) (mx := mx) (rt := rt) hy ?_
  intro p e s m args below meth c s₁ B hml htab hv
  obtain ⟨rfl, hT⟩ := hv
  have hall := atoms_spec (ws := Cond.code y cc mx rt :: qx_gts) B.pre
  have hown : s.vm.findClass y.cls = some m.cls := findClass_of_methodNamed B.named
  have F : qx_F p s m av.toArray meth c y.cls cc mx rt := ⟨B.exec, B.bytes, B.returns, hml, hown, fun w hw => hall w (List.mem_cons_of_mem _ hw), B.notSynchronized⟩
  have hid : av.map (qx_rv id) = av := by
    have h1 : ∀ x : Value, qx_rv id x = x := by intro x; cases x <;> rfl
    rw [List.map_congr_left (g := id) (fun x _ => h1 x), List.map_id]
  have hl := (qx_entry (ad := id) (as := av) (mx := mx) hc hn).1
  rw [hid] at hl
  rw [lg_entry_eq]
  exact body p e s m _ below meth c _ F hT hl
section QXTB
variable {p : Program} {e : Env} {R : Room} {s : State} {m : MethodId} {args : Array Value} {below : List Frame} {meth : Method} {c : Code} {H : Heap} {locs : List Loc} {cells slots : Nat} {Q : State → Prop}
theorem qx_backT {o : Option Value} {pc : Nat} {lsA : Array Slot} {st0 rest : List Value} {av : Array Value}
    (hr : va_Run p l e R s m args below meth c H locs cells slots 0 0 (F0 m pc lsA st0) rest (qx_Tq o av) qx_No)
    (kk : W p l e R s m args below meth c H locs cells slots Q (F0 m (pc + 3) lsA (o.toList ++ rest))) :
    W p l e R s m args below meth c H locs cells slots Q (F0 m pc lsA st0) := by
  intro T hT X
  obtain ⟨v, st₀, t, T', L, h0, X', hL, e1, e2, ⟨hv, hh⟩, st⟩ := hr T hT X
  cases hv
  obtain rfl : L = [] := by
    cases L with
    | nil => rfl
    | cons q r => exact (hL q List.mem_cons_self).elim
  rw [List.append_nil] at X'
  obtain ⟨t2, a1, b1⟩ := kk T' (by rw [e1, hh, h0]) X'
  exact ⟨t2, st t2 a1, b1⟩
end QXTB
theorem qx_gV {own C : String} {idx mx : Nat} {y : MethodName} {cc : ByteArray} {rt : Option FieldType} (h : (([.methodLink own idx y, .instanceMethod y, .selects C y y, .initialized C, .code y cc mx rt] : List Jvm.Cond).all fun w => goodWord w && decide (w ∈ lw_tbl)) = true) : GoodIn qx_gts (wsV own idx C y (Cond.code y cc mx rt :: qx_gts)) := qx_good_all (by
  intro w hw
  have h1 : ∀ w ∈ ([.methodLink own idx y, .instanceMethod y, .selects C y y, .initialized C, .code y cc mx rt] : List Jvm.Cond), w ∈ qx_gts := fun w hw => qx_in (List.all_eq_true.mp h w hw)
  unfold wsV at hw
  simp only [List.mem_append, List.mem_cons, List.not_mem_nil, or_false] at hw
  rcases hw with (rfl | rfl | rfl | rfl) | rfl | h9
  · exact h1 _ (by simp)
  · exact h1 _ (by simp)
  · exact h1 _ (by simp)
  · exact h1 _ (by simp)
  · exact h1 _ (by simp)
  · exact h9)
theorem qx_gS {own : String} {idx mx : Nat} {y : MethodName} {cc : ByteArray} {rt : Option FieldType} (h : (([.methodLink own idx y, .static y, .initialized y.cls, .code y cc mx rt] : List Jvm.Cond).all fun w => goodWord w && decide (w ∈ lw_tbl)) = true) : GoodIn qx_gts (va_wsS own idx y (Cond.code y cc mx rt :: qx_gts)) := qx_good_all (by
  intro w hw
  have h1 : ∀ w ∈ ([.methodLink own idx y, .static y, .initialized y.cls, .code y cc mx rt] : List Jvm.Cond), w ∈ qx_gts := fun w hw => qx_in (List.all_eq_true.mp h w hw)
  unfold va_wsS at hw
  simp only [List.mem_append, List.mem_cons, List.not_mem_nil, or_false] at hw
  rcases hw with (rfl | rfl | rfl) | rfl | h9
  · exact h1 _ (by simp)
  · exact h1 _ (by simp)
  · exact h1 _ (by simp)
  · exact h1 _ (by simp)
  · exact h9)
theorem qx_t_coder : qx_TM l yJ0_coder_7d493 cJ0_coder_7d493 1 (some .byte) 0 [.ref a] (qx_TF a b n f v) (some (.int 0)) := by
  refine qx_ofT (by decide +kernel) rfl (Nat.le_refl 1) ?_
  intro p e s m args below meth c lsA ⟨hx, hb, hr, hml, hown, hts, hlocks⟩ ⟨h1, h2, h3, h4, h5, h6, h7⟩ hl
  refine va_gets (index := 38) (ref := RJ0) hx hb h5 va_S.rf hown (hts _ (qx_in (by decide +kernel))) (fun _ h => h) (by decide +kernel) ?_
  refine lv_if_eq (off := 10) (tgt := 13) hx hb (by decide +kernel) (by decide) (fun h9 => absurd h9 (by decide)) (fun _ => ?_)
  refine lv_aload_n (k := 0) hx hb (by decide +kernel) rfl (qx_lv_get hl (i := 0) (v := .ref a) rfl) ?_
  refine vk_getf (index := 15) (ref := RJ0) hx hb h2 va_S.rf hown (hts _ (qx_in (by decide +kernel))) (fun _ h => h) (by decide +kernel) ?_
  refine lv_goto (off := 4) (tgt := 14) hx hb (by decide +kernel) (by decide) ?_
  exact W.zret (ty := .byte) hx hb hr (by decide) (fun t ht _ => ⟨rfl, ht⟩) (fun _ h => by cases h) (by decide +kernel) hlocks
theorem qx_t_isLatin1 : qx_TM l yJ0_isLatin1_aae02 cJ0_isLatin1_aae02 1 (some .boolean) 0 [.ref a] (qx_TF a b n f v) (some (.int 1)) := by
  refine qx_ofT (by decide +kernel) rfl (Nat.le_refl 1) ?_
  intro p e s m args below meth c lsA ⟨hx, hb, hr, hml, hown, hts, hlocks⟩ ⟨h1, h2, h3, h4, h5, h6, h7⟩ hl
  refine va_gets (index := 38) (ref := RJ0) hx hb h5 va_S.rf hown (hts _ (qx_in (by decide +kernel))) (fun _ h => h) (by decide +kernel) ?_
  refine lv_if_eq (off := 14) (tgt := 17) hx hb (by decide +kernel) (by decide) (fun h9 => absurd h9 (by decide)) (fun _ => ?_)
  refine lv_aload_n (k := 0) hx hb (by decide +kernel) rfl (qx_lv_get hl (i := 0) (v := .ref a) rfl) ?_
  refine vk_getf (index := 15) (ref := RJ0) hx hb h2 va_S.rf hown (hts _ (qx_in (by decide +kernel))) (fun _ h => h) (by decide +kernel) ?_
  refine lv_if_ne (off := 7) (tgt := 17) hx hb (by decide +kernel) (by decide) (fun h9 => absurd rfl h9) (fun _ => ?_)
  refine lv_iconst (n := 1) hx hb (by decide +kernel) rfl ?_
  refine lv_goto (off := 4) (tgt := 18) hx hb (by decide +kernel) (by decide) ?_
  exact W.zret (ty := .boolean) hx hb hr (by decide) (fun t ht _ => ⟨rfl, ht⟩) (fun _ h => by cases h) (by decide +kernel) hlocks
theorem qx_t_pre {i k : Int32} (h0 : ¬ i < 0) (h1 : i < k) : qx_TM l yJ3_checkIndex_8e157 cJ3_checkIndex_8e157 3 (some .int) 0 [.int i, .int k, v] (qx_TF a b n f v) (some (.int i)) := by
  by_cases hvc : (v.category == 1) = true
  · refine qx_ofT (by decide +kernel) (by simp only [List.all_cons, List.all_nil, hvc, Bool.and_true]; rfl) (Nat.le_refl 3) ?_
    intro p e s m args below meth c lsA ⟨hx, hb, hr, hml, hown, hts, hlocks⟩ hT hl
    refine lv_iload_n (k := 0) hx hb (by decide +kernel) rfl (qx_lv_get hl (i := 0) (v := .int i) rfl) ?_
    refine lv_if_lt (off := 8) (tgt := 9) hx hb (by decide +kernel) (by decide) (fun h9 => absurd h9 h0) (fun _ => ?_)
    refine lv_iload_n (k := 0) hx hb (by decide +kernel) rfl (qx_lv_get hl (i := 0) (v := .int i) rfl) ?_
    refine lv_iload_n (k := 1) hx hb (by decide +kernel) rfl (qx_lv_get hl (i := 1) (v := .int k) rfl) ?_
    refine lv_icmp_lt (off := 10) (tgt := 16) hx hb (by decide +kernel) (by decide) (fun _ => ?_) (fun h9 => absurd h1 h9)
    refine lv_iload_n (k := 0) hx hb (by decide +kernel) rfl (qx_lv_get hl (i := 0) (v := .int i) rfl) ?_
    exact W.iret hx hb hr (fun t ht _ => ⟨rfl, ht⟩) (fun _ h => by cases h) (by decide +kernel) hlocks
  · refine qx_ofM (hh := []) (cc := cJ3_checkIndex_8e157) (mx := 3) (rt := some .int) (by decide +kernel) ?_
    intro p e s m args below meth c s₁ B hml htab hv
    exfalso
    obtain ⟨_, -, -, -, -, -, -, h7⟩ := hv
    rcases h7 with rfl | ⟨q, rfl⟩
    · exact hvc rfl
    · exact hvc rfl
theorem qx_t_check {i k : Int32} (h0 : ¬ i < 0) (h1 : i < k) : qx_TM l yJ0_checkIndex_df160 cJ0_checkIndex_df160 2 none 1 [.int i, .int k] (qx_TF a b n f v) none := by
  refine qx_ofT (by decide +kernel) rfl (Nat.le_refl 2) ?_
  intro p e s m args below meth c lsA ⟨hx, hb, hr, hml, hown, hts, hlocks⟩ hT hl
  have hT0 := hT
  obtain ⟨-, -, -, -, -, h6, -⟩ := hT
  refine lv_iload_n (k := 0) hx hb (by decide +kernel) rfl (qx_lv_get hl (i := 0) (v := .int i) rfl) ?_
  refine lv_iload_n (k := 1) hx hb (by decide +kernel) rfl (qx_lv_get hl (i := 1) (v := .int k) rfl) ?_
  refine va_gets (index := 1053) (ref := RJ3) hx hb h6 va_S.rf hown (hts _ (qx_in (by decide +kernel))) (fun _ h => h) (by decide +kernel) ?_
  refine qx_backT (va_runS (As := [.int i, .int k, v]) (rest := []) (g := F0 m (0 + 1 + 1 + 3) lsA _) ⟨hx, hb, hml, hown, hts⟩ (qx_t_pre (a := a) (b := b) (n := n) (f := f) (v := v) h0 h1)
    (va_cwS 3 hts (qx_gS (own := RJ0) (idx := 1059) (by decide +kernel)) (ws' := qx_gts) rfl rfl rfl ⟨by decide, by decide, by decide +kernel⟩ (by decide))
    ⟨qx_tf_blind, qx_tf_at rfl hT0⟩ rfl rfl hl.1 rfl (lv_room (by simp)) (show decode cJ0_checkIndex_df160 5 = .ok (.invokestatic 1059, 3) by decide +kernel) ⟨Nat.le_refl _, Nat.le_refl _⟩) ?_
  refine lv_pop hx hb (by decide +kernel) rfl ?_
  exact W.vret hx hb hr (fun t ht _ => ⟨rfl, ht⟩) (fun _ h => by cases h) (by decide +kernel) hlocks
theorem qx_t_latin {i : Int32} (h0 : ¬ i < 0) (h1 : i < nI n) (hin : vp_in i n) (hc : ((f i.toNatClampNeg &&& 255).toUInt32 % 65536).toInt32 = f i.toNatClampNeg) (hn : narrow .char (.int (f i.toNatClampNeg)) = .int (f i.toNatClampNeg)) :
    qx_TM l yJ1_charAt_3b067 cJ1_charAt_3b067 2 (some .char) 2 [.ref b, .int i] (qx_TF a b n f v) (some (.int (f i.toNatClampNeg))) := by
  refine qx_ofT (by decide +kernel) rfl (Nat.le_refl 2) ?_
  intro p e s m args below meth c lsA ⟨hx, hb, hr, hml, hown, hts, hlocks⟩ hT hl
  have hT0 := hT
  obtain ⟨-, -, -, h4, -, -, -⟩ := hT
  refine lv_iload_n (k := 1) hx hb (by decide +kernel) rfl (qx_lv_get hl (i := 1) (v := .int i) rfl) ?_
  refine lv_aload_n (k := 0) hx hb (by decide +kernel) rfl (qx_lv_get hl (i := 0) (v := .ref b) rfl) ?_
  refine va_tlen (v := nI n) hx hb h4 va_S.rf rfl (by decide +kernel) ?_
  refine qx_backT (va_runS (As := [.int i, .int (nI n)]) (rest := []) (g := F0 m (0 + 1 + 1 + 1) lsA _) ⟨hx, hb, hml, hown, hts⟩ (qx_t_check (a := a) (b := b) (n := n) (f := f) (v := v) h0 h1)
    (va_cwS 2 hts (qx_gS (own := RJ1) (idx := 9) (by decide +kernel)) (ws' := qx_gts) rfl rfl rfl ⟨by decide, by decide, by decide +kernel⟩ (by decide))
    ⟨qx_tf_blind, qx_tf_at rfl hT0⟩ rfl rfl hl.1 rfl (lv_room (by simp)) (show decode cJ1_charAt_3b067 3 = .ok (.invokestatic 9, 3) by decide +kernel) ⟨Nat.le_refl _, Nat.le_refl _⟩) ?_
  refine lv_aload_n (k := 0) hx hb (by decide +kernel) rfl (qx_lv_get hl (i := 0) (v := .ref b) rfl) ?_
  refine lv_iload_n (k := 1) hx hb (by decide +kernel) rfl (qx_lv_get hl (i := 1) (v := .int i) rfl) ?_
  refine va_tb hx hb h4 va_S.rf hin rfl (by decide +kernel) ?_
  refine lv_sipush (n := 255) (v := 255) hx hb (by decide +kernel) rfl ?_
  refine lv_iand hx hb (by decide +kernel) ?_
  refine lv_i2c hx hb (by decide +kernel) hc ?_
  exact W.zret (ty := .char) hx hb hr hn (fun t ht _ => ⟨rfl, ht⟩) (fun _ h => by cases h) (by decide +kernel) hlocks
theorem qx_t_charAt {i : Int32} (h0 : ¬ i < 0) (h1 : i < nI n) (hin : vp_in i n) (hc : ((f i.toNatClampNeg &&& 255).toUInt32 % 65536).toInt32 = f i.toNatClampNeg) (hn : narrow .char (.int (f i.toNatClampNeg)) = .int (f i.toNatClampNeg)) :
    qx_TM l yJ0_charAt_5068e cJ0_charAt_5068e 2 (some .char) 3 [.ref a, .int i] (qx_TF a b n f v) (some (.int (f i.toNatClampNeg))) := by
  refine qx_ofT (by decide +kernel) rfl (Nat.le_refl 2) ?_
  intro p e s m args below meth c lsA ⟨hx, hb, hr, hml, hown, hts, hlocks⟩ hT hl
  have hT0 := hT
  obtain ⟨h1', -, h3, -, -, -, -⟩ := hT
  refine lv_aload_n (k := 0) hx hb (by decide +kernel) rfl (qx_lv_get hl (i := 0) (v := .ref a) rfl) ?_
  refine qx_backT (va_runV (As := []) (b := a) (rest := []) (g := F0 m (0 + 1) lsA _) ⟨hx, hb, hml, hown, hts⟩ (qx_t_isLatin1 (a := a) (b := b) (n := n) (f := f) (v := v))
    (cwV 0 hts (qx_gV (own := RJ0) (C := RJ0) (idx := 492) (by decide +kernel)) (ws' := qx_gts) rfl rfl rfl ⟨rfl, by decide, by decide, by decide +kernel⟩ (by decide))
    ⟨qx_tf_blind, by obtain ⟨cell, g1, g2, g3, -⟩ := h1'; exact ⟨cell, g1, g2, g3⟩, qx_tf_at rfl hT0⟩ rfl rfl hl.1 rfl (lv_room (by simp)) (show decode cJ0_charAt_5068e 1 = .ok (.invokevirtual 492, 3) by decide +kernel) ⟨Nat.le_refl _, Nat.le_refl _⟩) ?_
  refine lv_if_eq (off := 12) (tgt := 16) hx hb (by decide +kernel) (by decide) (fun h9 => absurd h9 (by decide)) (fun _ => ?_)
  refine lv_aload_n (k := 0) hx hb (by decide +kernel) rfl (qx_lv_get hl (i := 0) (v := .ref a) rfl) ?_
  refine vk_getf (index := 9) (ref := RJ0) hx hb h3 va_S.rf hown (hts _ (qx_in (by decide +kernel))) (fun _ h => h) (by decide +kernel) ?_
  refine lv_iload_n (k := 1) hx hb (by decide +kernel) rfl (qx_lv_get hl (i := 1) (v := .int i) rfl) ?_
  refine qx_backT (va_runS (As := [.ref b, .int i]) (rest := []) (g := F0 m (0 + 1 + 3 + 3 + 1 + 3 + 1) lsA _) ⟨hx, hb, hml, hown, hts⟩ (qx_t_latin (a := a) (b := b) (n := n) (f := f) (v := v) h0 h1 hin hc hn)
    (va_cwS 2 hts (qx_gS (own := RJ0) (idx := 495) (by decide +kernel)) (ws' := qx_gts) rfl rfl rfl ⟨by decide, by decide, by decide +kernel⟩ (by decide))
    ⟨qx_tf_blind, qx_tf_at rfl hT0⟩ rfl rfl hl.1 rfl (lv_room (by simp)) (show decode cJ0_charAt_5068e 12 = .ok (.invokestatic 495, 3) by decide +kernel) ⟨Nat.le_refl _, Nat.le_refl _⟩) ?_
  exact W.zret (ty := .char) hx hb hr hn (fun t ht _ => ⟨rfl, ht⟩) (fun _ h => by cases h) (by decide +kernel) hlocks
theorem qx_t_length (hz : nI n >>> ((0 : Int32) &&& 31) = nI n) : qx_TM l yJ0_length_8abf5 cJ0_length_8abf5 1 (some .int) 1 [.ref a] (qx_TF a b n f v) (some (.int (nI n))) := by
  refine qx_ofT (by decide +kernel) rfl (Nat.le_refl 1) ?_
  intro p e s m args below meth c lsA ⟨hx, hb, hr, hml, hown, hts, hlocks⟩ hT hl
  have hT0 := hT
  obtain ⟨h1', -, h3, h4, -, -, -⟩ := hT
  refine lv_aload_n (k := 0) hx hb (by decide +kernel) rfl (qx_lv_get hl (i := 0) (v := .ref a) rfl) ?_
  refine vk_getf (index := 9) (ref := RJ0) hx hb h3 va_S.rf hown (hts _ (qx_in (by decide +kernel))) (fun _ h => h) (by decide +kernel) ?_
  refine va_tlen (v := nI n) hx hb h4 va_S.rf rfl (by decide +kernel) ?_
  refine lv_aload_n (k := 0) hx hb (by decide +kernel) rfl (qx_lv_get hl (i := 0) (v := .ref a) rfl) ?_
  refine qx_backT (va_runV (As := []) (b := a) (rest := [.int (nI n)]) (g := F0 m (0 + 1 + 3 + 1 + 1) lsA _) ⟨hx, hb, hml, hown, hts⟩ (qx_t_coder (a := a) (b := b) (n := n) (f := f) (v := v))
    (cwV 0 hts (qx_gV (own := RJ0) (C := RJ0) (idx := 335) (by decide +kernel)) (ws' := qx_gts) rfl rfl rfl ⟨rfl, by decide, by decide, by decide +kernel⟩ (by decide))
    ⟨qx_tf_blind, by obtain ⟨cell, g1, g2, g3, -⟩ := h1'; exact ⟨cell, g1, g2, g3⟩, qx_tf_at rfl hT0⟩ rfl rfl hl.1 rfl (lv_room (by simp [Value.category])) (show decode cJ0_length_8abf5 6 = .ok (.invokevirtual 335, 3) by decide +kernel) ⟨Nat.le_refl _, Nat.le_refl _⟩) ?_
  refine lv_ishr hx hb (by decide +kernel) ?_
  refine W.iret hx hb hr (fun t ht _ => ⟨?_, ht⟩) (fun _ h => by cases h) (by decide +kernel) hlocks
  rw [hz]
theorem qx_gL {own C : String} {idx mx : Nat} {y : MethodName} {cc : ByteArray} {rt : Option FieldType} (hl : Cond.methodLink own idx y ∈ qx_gts) (h : (([.instanceMethod y, .selects C y y, .initialized C, .code y cc mx rt] : List Jvm.Cond).all fun w => goodWord w && decide (w ∈ lw_tbl)) = true) : GoodIn qx_gts (wsV own idx C y (Cond.code y cc mx rt :: qx_gts)) := qx_good_all (by
  intro w hw
  have h1 : ∀ w ∈ ([.instanceMethod y, .selects C y y, .initialized C, .code y cc mx rt] : List Jvm.Cond), w ∈ qx_gts := fun w hw => qx_in (List.all_eq_true.mp h w hw)
  unfold wsV at hw
  simp only [List.mem_append, List.mem_cons, List.not_mem_nil, or_false] at hw
  rcases hw with (rfl | rfl | rfl | rfl) | rfl | h9
  · exact hl
  · exact h1 _ (by simp)
  · exact h1 _ (by simp)
  · exact h1 _ (by simp)
  · exact h1 _ (by simp)
  · exact h9)
theorem qx_tx_all : ∀ k, k < 26 → (nI (qx_txc k).length >>> ((0 : Int32) &&& 31) = nI (qx_txc k).length) ∧ (qx_txc k).length < 128 ∧ (∀ c ∈ qx_txc k, c < 128) := by decide +kernel
theorem qx_c128 : ∀ c, c < 128 → ((nI c &&& 255).toUInt32 % 65536).toInt32 = nI c ∧ narrow .char (.int (nI c)) = .int (nI c) := by decide +kernel
theorem qx_txc_get {k j : Nat} (hk : k < 26) : (qx_txc k).getD j 0 < 128 := by
  rcases Nat.lt_or_ge j (qx_txc k).length with h | h
  · rw [List.getD_eq_getElem?_getD, List.getElem?_eq_getElem h]
    exact (qx_tx_all k hk).2.2 _ (List.getElem_mem h)
  · rw [List.getD_eq_getElem?_getD, List.getElem?_eq_none h]
    decide
theorem qx_B_ok {L : Nat} {xs : Nat → Int32} {D : va_G} {ad : Nat → Nat} {cy : Nat → ClassId} : qx_B l L xs D ad cy := by
  intro p e R s m args below meth c H locs cells slots Q own cc mx rt A lsA rest pc idx k t F hV hK hS hA hsz hR1 hR2 hR3 hR4 hrest ht hk hd
  obtain ⟨hx, hb, hr, hml, hown, hts, hlocks⟩ := F
  obtain ⟨-, -, -, -, -, hSt, v, hZ1, hZ2, hv⟩ := hK
  obtain ⟨bb, g1, g2, g3, g4⟩ := hSt k t ht hk
  have hk26 : k < 26 := (List.getElem?_eq_some_iff.mp ht).1
  have hn : ∀ q, qx_No q → A q := fun q h => h.elim
  have hT : ∀ (av : List Value) (U : State), U.heap = H → s.WarmedH U.vm → va_Pc av (qx_TF (ad (500 + k)) bb (qx_txc k).length (fun j => nI ((qx_txc k).getD j 0)) v) av.toArray U := by
    intro av U hU hW
    refine ⟨rfl, ?_⟩
    unfold qx_TF
    rw [hU]
    exact ⟨((g1.kept hS.2.1).narrow hn).moved hW.alike, ((g2.kept hS.2.1).narrow hn).moved hW.alike, ((g3.kept hS.2.1).narrow hn).moved hW.alike, ((g4.kept hS.2.1).narrow hn).moved hW.alike, ((hZ1.kept hS.2.1).narrow hn).moved hW.alike, ((hZ2.kept hS.2.1).narrow hn).moved hW.alike, hv⟩
  have hrecv : ∃ cell : Cell, H[ad (500 + k)]? = some cell ∧ cell.vm.isStatics = false ∧ s.vm.findClass RJ0 = some cell.cls := by
    obtain ⟨cell, q1, q2, q3, -⟩ := g1.kept hS.2.1
    exact ⟨cell, q1, q2, q3⟩
  obtain ⟨t1, t2, t3⟩ := qx_tx_all k hk26
  refine ⟨fun hl kk => ?_, fun j hj hl kk => ?_⟩
  · exact qx_backT (va_runV (As := []) (b := ad (500 + k)) (rest := rest) (g := F0 m pc lsA (.ref (ad (500 + k)) :: rest)) ⟨hx, hb, hml, hown, hts⟩ (qx_t_length (f := fun j => nI ((qx_txc k).getD j 0)) t1)
      (cwV 0 hts (qx_gL (own := own) (C := RJ0) (idx := idx) hl (by decide +kernel)) (ws' := qx_gts) rfl rfl rfl ⟨rfl, by decide, by decide, by decide +kernel⟩ ⟨by show 1 + 1 ≤ R.frames; omega, by show 8 + (1 + 11) + 30 * 1 ≤ R.locals; omega⟩)
      ⟨qx_tf_blind, hrecv, hT _⟩ rfl rfl hsz rfl (lv_room hrest) hd ⟨hR3, hR4⟩) (kk H locs rfl hS)
  · have h0 : ¬ j < 0 := fun h => hj (Or.inl h)
    have h2 : j.toNatClampNeg < (qx_txc k).length := Nat.not_le.mp fun h => hj (Or.inr h)
    have h1 : j < nI (qx_txc k).length := by
      have e : nI (qx_txc k).length = Int32.ofNat (qx_txc k).length := rfl
      rw [e, Int32.lt_iff_toInt_lt, Int32.toInt_ofNat_of_lt (by omega)]
      have h3 : (0 : Int) ≤ j.toInt := by
        have := Int32.not_lt.mp h0
        simpa using Int32.le_iff_toInt_le.mp this
      have h4 : j.toInt.toNat < (qx_txc k).length := h2
      omega
    have hcc := qx_c128 _ (qx_txc_get (j := j.toNatClampNeg) hk26)
    have hM := qx_t_charAt (l := l) (a := ad (500 + k)) (b := bb) (n := (qx_txc k).length) (f := fun j => nI ((qx_txc k).getD j 0)) (v := v) h0 h1 hj hcc.1 hcc.2
    exact qx_backT (va_runV (As := [.int j]) (b := ad (500 + k)) (rest := rest) (g := F0 m pc lsA (.int j :: .ref (ad (500 + k)) :: rest)) ⟨hx, hb, hml, hown, hts⟩ hM
      (cwV 1 hts (qx_gL (own := own) (C := RJ0) (idx := idx) hl (by decide +kernel)) (ws' := qx_gts) rfl rfl rfl ⟨rfl, by decide, by decide, by decide +kernel⟩ ⟨by show 3 + 1 ≤ R.frames; omega, by show 8 + (2 + 11) + 30 * 3 ≤ R.locals; omega⟩)
      ⟨qx_tf_blind, hrecv, hT _⟩ rfl rfl hsz rfl (lv_room hrest) hd ⟨hR3, hR4⟩) (kk H locs rfl hS)
end QXT
