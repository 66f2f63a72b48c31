/-! The constructors' machine is the machine. -/
def qx_NV (D : va_G) (cy : Nat → ClassId) (U : State) : Prop := va_K D vwCl (qx_tys cy) U ∧ va_AO RX4 U ∧ ∀ w ∈ lw_tbl, qx_nk w = true → va_Nw w U
def qx_nW (D : va_G) (cy : Nat → ClassId) (A : Nat → Prop) (ads : Nat → Nat) (cs : qxN) (H : Heap) : Prop := qx_nci cs ∧ va_P D vwCl (qx_nw cy ads cs) H ∧ va_D A (qx_nw cy ads cs)
theorem qx_NV.warm {D : va_G} {cy : Nat → ClassId} {s U : State} (hW : s.WarmedH U.vm) (h : qx_NV D cy s) : qx_NV D cy U := by
  refine ⟨va_K.moved hW.alike h.1, va_AO.moved hW.alike h.2.1, fun w hw hk => ?_⟩
  have h1 := h.2.2 w hw hk
  cases w <;> first
    | exact va_Nw.warmM hW h1
    | exact va_Nw.warmC hW h1
    | exact va_Nw.warmD hW h1
    | (simp [qx_nk] at hk)
theorem qx_ngo_inj {np : Nat} {ls : qxL} {st : List Value} {cs : qxN} {q : Nat × qxL × List Value × qxN} (h : qx_ngo np ls st cs = some (.inl q)) : q = (np, ls, st, cs) := by
  unfold qx_ngo at h
  exact (Sum.inl.inj (Option.some.inj h)).symm
theorem qx_agr_rf {n : Nat} {ads : Nat → Nat} : qx_agr n ads ads := fun _ _ => rfl
theorem qx_inb_of {w : Jvm.Cond} (h : qx_inb w = true) : w ∈ qx_gts := qx_in h
theorem qx_kind_cy {cy : Nat → ClassId} {U : State} {D : va_G} {t : Nat} {cA : ClassId} {ty : FieldType} {x : ClassId × FieldType} (ht : (qx_tys cy)[t]? = some x) (hx : x = (cy t, ty)) (h : va_K D vwCl (qx_tys cy ++ [(cA, ty)]) U) : cA = cy t := by
  subst hx
  have h1 := (h.2 t _ (by rw [List.getElem?_append_left (List.getElem?_eq_some_iff.mp ht).1]; exact ht)).2
  have h2 := (h.2 6 (cA, ty) rfl).2
  cases ty with
  | object C =>
    obtain ⟨_, _, _, _, _, g1⟩ := h1
    obtain ⟨_, _, _, _, _, g2⟩ := h2
    exact Option.some.inj (g2.symm.trans g1)
  | _ => exact Option.some.inj (h2.symm.trans h1)
section QXNS
variable {p : Program} {l : Launch} {e : Env} {R : Room} {s : State} {m : MethodId} {args : Array Value} {below : List Frame} {meth : Method} {c : Code} {H : Heap} {locs : List Loc} {cells slots : Nat} {Q : State → Prop}
/-- a new row -/
theorem qx_nrow {D : va_G} {cy : Nat → ClassId} {own : String} {cc : ByteArray} {mx t n : Nat} {rt : Option FieldType} {A : Nat → Prop} {lsA : Array Slot} {ls : qxL} {st : List Value} {cs : qxN} {pc : Nat} {ads : Nat → Nat} {nn : Int32} {at_ : ArrayType} {ty : FieldType} {a0 : vp_A}
    (F : qx_F p s m args meth c own cc mx rt) (hV : qx_NV D cy s) (hA : ∀ q, s.heap.size ≤ q → A q) (hR3 : cells + 1 ≤ R.cells) (hR4 : slots + n ≤ R.slots)
    (hW : qx_nW D cy A ads cs H) (hS : va_S A s.heap H locs) (hl : lv_has lsA mx (qx_lv ads 0 ls)) (hn : ls.length = mx) (h9 : cs.length < 999) (hls : qx_nls cs.length ls = true) (hst : st.all (qx_nok cs.length) = true) (hd : decode cc pc = .ok (.newarray at_, 2)) (hw : qx_inb (.arrayClass (newarray.typeOf at_)) = true)
    (hty : newarray.typeOf at_ = ty) (ht : (qx_tys cy)[t]? = some (cy t, ty)) (hnn : ¬ nn < 0) (hN : nn.toNatClampNeg = n) (hnb : n * componentBytes ty ≤ 536870912) (ha : ∀ cA : ClassId, vp_cell cA a0 = arrV cA n (fun _ => defaultValue ty)) (he : ∀ ads', (.inl (cy t, a0) : va_E) = qx_ne cy ads' (.inr (t, n, [])))
    (kk : ∀ (H1 : Heap) (locs1 : List Loc) (lsA1 : Array Slot) (ads1 : Nat → Nat), qx_agr cs.length ads ads1 → qx_nW D cy A ads1 (cs ++ [.inr (t, n, [])]) H1 → va_S A s.heap H1 locs1 → lv_has lsA1 mx (qx_lv ads1 0 ls) → ls.length = mx →
      W p l e R s m args below meth c H1 locs1 (cells + 1) (slots + n) Q (F0 m (pc + 2) lsA1 ((Value.ref cs.length :: st).map (qx_rv ads1)))) :
    W p l e R s m args below meth c H locs cells slots Q (F0 m pc lsA (.int nn :: st.map (qx_rv ads))) := by
  obtain ⟨hx, hb, hr, hml, hown, hts, hlocks⟩ := F
  obtain ⟨hc, hP, hD⟩ := hW
  refine va_newa hx hb (hts _ (qx_inb_of hw)) hty hV.1 hP hD hS hA ha hnn hN hnb hR3 hR4 hd (fun q cA H1 g1 g2 g3 g4 => ?_)
  obtain rfl : cA = cy t := qx_kind_cy ht rfl g1
  have hag := qx_nad_agr (ads := ads) (q := q) h9
  have e1 := qx_nw_push (cy := cy) (ads := ads) (ads' := qx_nad ads cs.length q) (q := q) (e := .inr (t, n, [])) hc hag (by unfold qx_nad; rw [if_pos rfl]) (he _)
  rw [e1] at g2 g3
  have h8 := kk H1 locs lsA (qx_nad ads cs.length q) hag ⟨qx_nci_push hc rfl, g2, g3⟩ g4 (by rw [qx_nlv_agr hag ls 0 hls]; exact hl) hn
  rw [List.map_cons, qx_nst_agr hag hst] at h8
  have e2 : qx_rv (qx_nad ads cs.length q) (.ref cs.length) = .ref q := by show Value.ref _ = _; unfold qx_nad; rw [if_pos rfl]
  rw [e2] at h8
  exact h8
set_option maxHeartbeats 4000000 in
theorem qx_nstep {D : va_G} {cy : Nat → ClassId} {own : String} {cc : ByteArray} {mx : Nat} {rt : Option FieldType} {A : Nat → Prop} {lsA : Array Slot} {ls : qxL} {st : List Value} {cs : qxN} {pc np a b w : Nat} {ins : Instr} {q : Nat × qxL × List Value × qxN} {ads : Nat → Nat}
    (F : qx_F p s m args meth c own cc mx rt) (ok : qx_nokE own cc (pc, ins, np, a, b, w) = true) (hname : ∀ n, ins = .putfield n → meth.name = "<init>") (hV : qx_NV D cy s) (hA : ∀ q, s.heap.size ≤ q → A q) (hR1 : 2 ≤ R.frames) (hR2 : 60 ≤ R.locals) (hR3 : cells + (q.2.2.2.length - cs.length) ≤ R.cells) (hR4 : slots + (qx_nsl q.2.2.2 - qx_nsl cs) ≤ R.slots)
    (hW : qx_nW D cy A ads cs H) (hS : va_S A s.heap H locs) (hl : lv_has lsA mx (qx_lv ads 0 ls)) (hn : ls.length = mx) (ha : qx_nact (pc, ins, np, a, b, w) ls st cs = some (.inl q)) :
    cs.length ≤ q.2.2.2.length ∧ qx_nsl cs ≤ qx_nsl q.2.2.2 ∧ ((∀ (H1 : Heap) (locs1 : List Loc) (lsA1 : Array Slot) (ads1 : Nat → Nat), qx_agr cs.length ads ads1 → qx_nW D cy A ads1 q.2.2.2 H1 → va_S A s.heap H1 locs1 → lv_has lsA1 mx (qx_lv ads1 0 q.2.1) → q.2.1.length = mx →
      W p l e R s m args below meth c H1 locs1 (cells + (q.2.2.2.length - cs.length)) (slots + (qx_nsl q.2.2.2 - qx_nsl cs)) Q (F0 m q.1 lsA1 (q.2.2.1.map (qx_rv ads1)))) →
    W p l e R s m args below meth c H locs cells slots Q (F0 m pc lsA (st.map (qx_rv ads)))) := by
  have F0 := F
  obtain ⟨hx, hb, hr, hml, hown, hts, hlocks⟩ := F0
  unfold qx_nokE at ok
  simp only [Bool.and_eq_true, decide_eq_true_eq] at ok
  obtain ⟨hd, hpc, rfl, ok⟩ := ok
  rw [Nat.add_sub_cancel_left] at hd
  have same : ∀ (pc1 : Nat) (ls1 : qxL) (st1 : List Value), q = (pc1, ls1, st1, cs) → ((∀ lsA1 : Array Slot, lv_has lsA1 mx (qx_lv ads 0 ls1) → ls1.length = mx → W p l e R s m args below meth c H locs cells slots Q (F0 m pc1 lsA1 (st1.map (qx_rv ads)))) → W p l e R s m args below meth c H locs cells slots Q (F0 m pc lsA (st.map (qx_rv ads)))) → cs.length ≤ q.2.2.2.length ∧ qx_nsl cs ≤ qx_nsl q.2.2.2 ∧ ((∀ (H1 : Heap) (locs1 : List Loc) (lsA1 : Array Slot) (ads1 : Nat → Nat), qx_agr cs.length ads ads1 → qx_nW D cy A ads1 q.2.2.2 H1 → va_S A s.heap H1 locs1 → lv_has lsA1 mx (qx_lv ads1 0 q.2.1) → q.2.1.length = mx →
      W p l e R s m args below meth c H1 locs1 (cells + (q.2.2.2.length - cs.length)) (slots + (qx_nsl q.2.2.2 - qx_nsl cs)) Q (F0 m q.1 lsA1 (q.2.2.1.map (qx_rv ads1)))) →
    W p l e R s m args below meth c H locs cells slots Q (F0 m pc lsA (st.map (qx_rv ads)))) := by
    rintro pc1 ls1 st1 rfl h
    refine ⟨Nat.le_refl _, Nat.le_refl _, fun kk => h (fun lsA1 h1 h2 => ?_)⟩
    have h3 := kk H locs lsA1 ads qx_agr_rf hW hS h1 h2
    simpa only [Nat.sub_self, Nat.add_zero] using h3
  cases ins with
  | iconst n => exact same _ _ _ (qx_ngo_inj ha) (fun kk => lv_iconst hx hb hd rfl (kk lsA hl hn))
  | bipush n => exact same _ _ _ (qx_ngo_inj ha) (fun kk => lv_bipush hx hb hd rfl (kk lsA hl hn))
  | sipush n => exact same _ _ _ (qx_ngo_inj ha) (fun kk => lv_sipush hx hb hd rfl (kk lsA hl hn))
  | goto n => exact same _ _ _ (qx_ngo_inj ha) (fun kk => lv_goto hx hb hd (of_decide_eq_true ok) (kk lsA hl hn))
  | iload_n n =>
    simp only [qx_nact] at ha
    split at ha
    · rename_i h9
      exact same _ _ _ (qx_ngo_inj ha) (fun kk => lv_iload_n hx hb hd rfl (qx_lv_get hl h9) (kk lsA hl hn))
    · cases ha
  | aload_n n =>
    simp only [qx_nact] at ha
    split at ha
    · rename_i h9
      exact same _ _ _ (qx_ngo_inj ha) (fun kk => lv_aload_n hx hb hd rfl (qx_lv_get hl h9) (kk lsA hl hn))
    · cases ha
  | istore_n n =>
    simp only [qx_nact] at ha
    split at ha
    · unfold qx_nst at ha
      split at ha
      · rename_i h9
        exact same _ _ _ (qx_ngo_inj ha) (fun kk => lv_istore_n hx hb hd rfl hl (by rw [← hn]; exact h9.1) rfl (fun ls' h' => kk ls' (qx_lv_set h9.2 h9.1 h') (by simpa using hn)))
      · cases ha
    · cases ha
  | istore n =>
    simp only [qx_nact] at ha
    split at ha
    · unfold qx_nst at ha
      split at ha
      · rename_i h9
        exact same _ _ _ (qx_ngo_inj ha) (fun kk => lv_istore hx hb hd hl (by rw [← hn]; exact h9.1) rfl (fun ls' h' => kk ls' (qx_lv_set h9.2 h9.1 h') (by simpa using hn)))
      · cases ha
    · cases ha
  | astore_n n =>
    simp only [qx_nact] at ha
    split at ha
    · unfold qx_nst at ha
      split at ha
      · rename_i h9
        exact same _ _ _ (qx_ngo_inj ha) (fun kk => lv_astore_n hx hb hd rfl hl (by rw [← hn]; exact h9.1) rfl (fun ls' h' => kk ls' (qx_lv_set h9.2 h9.1 h') (by simpa using hn)))
      · cases ha
    · cases ha
  | astore n =>
    simp only [qx_nact] at ha
    split at ha
    · unfold qx_nst at ha
      split at ha
      · rename_i h9
        exact same _ _ _ (qx_ngo_inj ha) (fun kk => lv_astore hx hb hd hl (by rw [← hn]; exact h9.1) rfl (fun ls' h' => kk ls' (qx_lv_set h9.2 h9.1 h') (by simpa using hn)))
      · cases ha
    · cases ha
  | iinc i n =>
    simp only [qx_nact] at ha
    split at ha
    · rename_i x h9
      unfold qx_nst at ha
      split at ha
      · rename_i h8
        obtain ⟨z, hz⟩ := List.getElem?_of_mem ((qx_lv_mem (ad := ads) ls 0 (i, .int x)).mpr ⟨i, .int x, h9, by simp [qx_rv]⟩)
        exact same _ _ _ (qx_ngo_inj ha) (fun kk => lv_iinc hx hb hd hl hz rfl (by rw [← hn]; exact h8.1) rfl (fun ls' h' => kk ls' (qx_lv_set (v := .int (x + Int32.ofInt n)) h8.2 h8.1 h') (by simpa using hn)))
      · cases ha
    · cases ha
  | dup =>
    simp only [qx_nact] at ha
    split at ha
    · exact same _ _ _ (qx_ngo_inj ha) (fun kk => lv_dup hx hb hd rfl (kk lsA hl hn))
    · cases ha
  | if_icmp k n =>
    cases k with
    | ge =>
      simp only [qx_nact] at ha
      split at ha
      · rename_i y x st'
        split at ha
        · rename_i h9
          exact same _ _ _ (qx_ngo_inj ha) (fun kk => lv_icmp_ge hx hb hd (of_decide_eq_true ok) (fun _ => kk lsA hl hn) (fun h8 => absurd h9 h8))
        · rename_i h9
          exact same _ _ _ (qx_ngo_inj ha) (fun kk => lv_icmp_ge hx hb hd (of_decide_eq_true ok) (fun h8 => absurd h8 h9) (fun _ => kk lsA hl hn))
      · cases ha
    | _ => simp [qx_nact] at ha
  | new n =>
    simp only [qx_nact] at ha
    split at ha
    · rename_i h9
      obtain ⟨h9, h8, h7⟩ := h9
      obtain rfl := qx_ngo_inj ha
      cases hcl : vwCl[a]? with
      | none => simp [hcl] at ok
      | some cl =>
      simp only [hcl, Bool.and_eq_true] at ok
      obtain ⟨w1, w2, w3⟩ := ok
      have hnf : qx_nf a = cl.2.2 := by unfold qx_nf; rw [hcl]
      obtain ⟨ty0, hty0, hdf, hok⟩ := qx_ndf_ok a cl hcl
      obtain ⟨hc, hP, hD⟩ := hW
      have hlen : (cs ++ [(.inl (a, qx_ndf a) : qxNe)]).length - cs.length = 1 := by rw [List.length_append]; simp
      have hsl : qx_nsl (cs ++ [(.inl (a, qx_ndf a) : qxNe)]) - qx_nsl cs = cl.2.2 := by rw [qx_nsl_push, Nat.add_sub_cancel_left]; exact hnf
      refine ⟨by simp, by rw [qx_nsl_push]; exact Nat.le_add_right _ _, fun kk => ?_⟩
      dsimp only at kk hR3 hR4
      rw [hlen] at kk hR3
      rw [hsl] at kk hR4
      refine va_new (D := D) (ci := a) (fs := qx_ndf a) hx hb hts (qx_lays cl (List.mem_of_getElem? hcl)) ty0 hty0 hown (hts _ (qx_inb_of w1)) (hts _ (qx_inb_of w2)) (hts _ (qx_inb_of w3)) hV.1 hP hD hS hA hcl hdf hR3 hR4 hd (fun q H1 g2 g3 g4 => ?_)
      have hag := qx_nad_agr (ads := ads) (q := q) h9
      have hnull : ∀ v ∈ qx_ndf a, qx_rv (qx_nad ads cs.length q) v = v := by
        intro v hv
        unfold qx_ndf at hv
        obtain ⟨k, -, rfl⟩ := List.mem_map.mp hv
        cases qx_fo a k <;> rfl
      have e1 := qx_nw_push (cy := cy) (ads := ads) (ads' := qx_nad ads cs.length q) (q := q) (e := .inl (a, qx_ndf a)) (x := .inr (a, qx_ndf a)) hc hag (by unfold qx_nad; rw [if_pos rfl]) (by
        show _ = (Sum.inr (a, (qx_ndf a).map (qx_rv (qx_nad ads cs.length q))) : va_E)
        rw [List.map_congr_left (g := id) hnull, List.map_id])
      rw [e1] at g2 g3
      have h6 := kk H1 locs lsA (qx_nad ads cs.length q) hag ⟨qx_nci_push hc (qx_nce_mono (Nat.zero_le _) hok), g2, g3⟩ g4 (by rw [qx_nlv_agr hag ls 0 h8]; exact hl) hn
      rw [List.map_cons, qx_nst_agr hag h7] at h6
      have e2 : qx_rv (qx_nad ads cs.length q) (.ref cs.length) = .ref q := by show Value.ref _ = _; unfold qx_nad; rw [if_pos rfl]
      rw [e2] at h6
      exact h6
    · cases ha
  | newarray at_ =>
    simp only [qx_nact] at ha
    split at ha
    · rename_i nn st'
      split at ha
      · rename_i h9
        obtain ⟨h1, h2, h3, h4, h5⟩ := h9
        obtain rfl := qx_ngo_inj ha
        simp only [Bool.and_eq_true] at ok
        obtain ⟨hk, hw⟩ := ok
        have hlen : (cs ++ [(.inr (a, nn.toNatClampNeg, []) : qxNe)]).length - cs.length = 1 := by rw [List.length_append]; simp
        have hsl : qx_nsl (cs ++ [(.inr (a, nn.toNatClampNeg, []) : qxNe)]) - qx_nsl cs = nn.toNatClampNeg := by rw [qx_nsl_push, Nat.add_sub_cancel_left]; rfl
        refine ⟨by simp, by rw [qx_nsl_push]; exact Nat.le_add_right _ _, fun kk => ?_⟩
        dsimp only at kk hR3 hR4
        rw [hlen] at kk hR3
        rw [hsl] at kk hR4
        cases at_ with
        | int =>
          obtain rfl : a = 0 := by simpa using hk
          exact qx_nrow (a0 := (nn.toNatClampNeg, .inl (fun _ => 0))) (t := 0) F hV hA hR3 hR4 hW hS hl hn h3 h4 h5 hd hw rfl rfl h1 rfl (by show _ * 4 ≤ _; omega) (fun cA => rfl) (fun _ => rfl) kk
        | byte =>
          obtain rfl : a = 1 := by simpa using hk
          exact qx_nrow (a0 := (nn.toNatClampNeg, .inl (fun _ => 0))) (t := 1) F hV hA hR3 hR4 hW hS hl hn h3 h4 h5 hd hw rfl rfl h1 rfl (by show _ * 1 ≤ _; omega) (fun cA => rfl) (fun _ => rfl) kk
        | boolean =>
          obtain rfl : a = 2 := by simpa using hk
          exact qx_nrow (a0 := (nn.toNatClampNeg, .inl (fun _ => 0))) (t := 2) F hV hA hR3 hR4 hW hS hl hn h3 h4 h5 hd hw rfl rfl h1 rfl (by show _ * 1 ≤ _; omega) (fun cA => rfl) (fun _ => rfl) kk
        | long =>
          obtain rfl : a = 4 := by simpa using hk
          exact qx_nrow (a0 := (nn.toNatClampNeg, .inr (.inl (fun _ => 0)))) (t := 4) F hV hA hR3 hR4 hW hS hl hn h3 h4 h5 hd hw rfl rfl h1 rfl (by show _ * 8 ≤ _; omega) (fun cA => rfl) (fun _ => rfl) kk
        | double =>
          obtain rfl : a = 5 := by simpa using hk
          exact qx_nrow (a0 := (nn.toNatClampNeg, .inr (.inr (.inr (.inl (fun _ => 0)))))) (t := 5) F hV hA hR3 hR4 hW hS hl hn h3 h4 h5 hd hw rfl rfl h1 rfl (by show _ * 8 ≤ _; omega) (fun cA => rfl) (fun _ => rfl) kk
        | _ => simp at hk
      · cases ha
    · cases ha
  | anewarray n =>
    simp only [qx_nact] at ha
    split at ha
    · rename_i nn st'
      split at ha
      · rename_i h9
        obtain ⟨h1, h2, h3, h4, h5⟩ := h9
        obtain rfl := qx_ngo_inj ha
        obtain ⟨hc, hP, hD⟩ := hW
        have hlen : (cs ++ [(.inr (3, nn.toNatClampNeg, []) : qxNe)]).length - cs.length = 1 := by rw [List.length_append]; simp
        have hsl : qx_nsl (cs ++ [(.inr (3, nn.toNatClampNeg, []) : qxNe)]) - qx_nsl cs = nn.toNatClampNeg := by rw [qx_nsl_push, Nat.add_sub_cancel_left]; rfl
        refine ⟨by simp, by rw [qx_nsl_push]; exact Nat.le_add_right _ _, fun kk => ?_⟩
        dsimp only at kk hR3 hR4
        rw [hlen] at kk hR3
        rw [hsl] at kk hR4
        refine va_newq hx hb hown (hts _ (qx_inb_of ok)) hV.2.1 hV.1 hP hD hS hA h1 rfl (by omega) hR3 hR4 hd (fun q cA H1 g1 g2 g3 g4 => ?_)
        obtain rfl : cA = cy 3 := qx_kind_cy (t := 3) rfl rfl g1
        have hag := qx_nad_agr (ads := ads) (q := q) h3
        have e1 := qx_nw_push (cy := cy) (ads := ads) (ads' := qx_nad ads cs.length q) (q := q) (e := .inr (3, nn.toNatClampNeg, [])) (x := .inl (cy 3, nn.toNatClampNeg, .inr (.inr (.inr (.inr (fun _ => none)))))) hc hag (by unfold qx_nad; rw [if_pos rfl]) rfl
        rw [e1] at g2 g3
        have h6 := kk H1 locs lsA (qx_nad ads cs.length q) hag ⟨qx_nci_push hc rfl, g2, g3⟩ g4 (by rw [qx_nlv_agr hag ls 0 h4]; exact hl) hn
        rw [List.map_cons, qx_nst_agr hag h5] at h6
        have e2 : qx_rv (qx_nad ads cs.length q) (.ref cs.length) = .ref q := by show Value.ref _ = _; unfold qx_nad; rw [if_pos rfl]
        rw [e2] at h6
        exact h6
      · cases ha
    · cases ha
  | getfield n =>
    simp only [qx_nact] at ha
    split at ha
    · rename_i i st'
      split at ha
      · rename_i o hi
        split at ha
        · rename_i ho
          split at ha
          · rename_i v hv
            cases hcl : vwCl[a]? with
            | none => simp [hcl] at ok
            | some cl =>
            simp only [hcl, Bool.and_eq_true, decide_eq_true_eq] at ok
            obtain ⟨hb9, hw⟩ := ok
            obtain ⟨o1, o2⟩ := o
            obtain rfl : o1 = a := ho
            refine same _ _ _ (qx_ngo_inj ha) (fun kk => ?_)
            exact va_get (D := D) (ci := o1) (v := qx_rv ads v) (C := cl.1) (T := cl.2.1) (N := cl.2.2) hx hb hts (qx_lays cl (List.mem_of_getElem? hcl)) hown hV.1 hW.2.1 i (qx_nw_at hi) hcl b hb9 (hts _ (qx_inb_of hw)) (fun _ h8 => h8) (by rw [List.getElem?_map, hv]; rfl) hd (kk lsA hl hn)
          · cases ha
        · cases ha
      · cases ha
    · cases ha
  | putfield n =>
    simp only [qx_nact] at ha
    split at ha
    · rename_i v i st'
      split at ha
      · rename_i o hi
        split at ha
        · rename_i h9
          obtain ⟨ho, hbl, hfit, hvok⟩ := h9
          obtain rfl := qx_ngo_inj ha
          cases hcl : vwCl[a]? with
          | none => simp [hcl] at ok
          | some cl =>
          simp only [hcl, Bool.and_eq_true, decide_eq_true_eq, Bool.or_eq_true, Bool.not_eq_true'] at ok
          obtain ⟨hb9, hw, hfin⟩ := ok
          obtain ⟨o1, o2⟩ := o
          obtain rfl : o1 = a := ho
          obtain ⟨hc, hP, hD⟩ := hW
          obtain ⟨⟨ty0, hty0⟩, hnm⟩ := qx_cls o1 cl hcl
          obtain ⟨ty, q1, q2, q3⟩ := qx_nfit_ok (ads := ads) hcl hfit hb9
          have hlen : (cs.set i (.inl (o1, o2.set b v))).length = cs.length := List.length_set
          have hsl : qx_nsl (cs.set i (.inl (o1, o2.set b v))) = qx_nsl cs := qx_nsl_set hi rfl
          have hce : qx_nce cs.length (.inl (o1, o2.set b v)) = true := by
            have h7 : o2.all (qx_nok cs.length) = true := hc _ (List.mem_of_getElem? hi)
            show (o2.set b v).all (qx_nok cs.length) = true
            rw [List.all_eq_true] at h7 ⊢
            intro z hz
            rcases List.mem_or_eq_of_mem_set hz with h | h
            · exact h7 z h
            · rw [h]; exact hvok
          refine ⟨by dsimp only; rw [hlen]; exact Nat.le_refl _, by dsimp only; rw [hsl]; exact Nat.le_refl _, fun kk => ?_⟩
          have fin : ∀ (H1 : Heap) (locs1 : List Loc), va_P D vwCl ((qx_nw cy ads cs).set i (ads i, .inr (o1, (o2.map (qx_rv ads)).set b (qx_rv ads v)))) H1 → va_D A ((qx_nw cy ads cs).set i (ads i, .inr (o1, (o2.map (qx_rv ads)).set b (qx_rv ads v)))) → va_S A s.heap H1 locs1 → W p l e R s m args below meth c H1 locs1 cells slots Q (F0 m (pc + 3) lsA (st'.map (qx_rv ads))) := by
            intro H1 locs1 g1 g2 g3
            have e1 : ((qx_nw cy ads cs).set i (ads i, .inr (o1, (o2.map (qx_rv ads)).set b (qx_rv ads v)))) = qx_nw cy ads (cs.set i (.inl (o1, o2.set b v))) := by
              rw [← qx_nw_set hi]
              show _ = (qx_nw cy ads cs).set i (ads i, .inr (o1, (o2.set b v).map (qx_rv ads)))
              rw [List.map_set]
            rw [e1] at g1 g2
            have h6 := kk H1 locs1 lsA ads qx_agr_rf ⟨qx_nci_set hc hce, g1, g2⟩ g3 hl hn
            dsimp only at h6
            rw [hlen, hsl] at h6
            simp only [Nat.sub_self, Nat.add_zero] at h6
            exact h6
          cases hf : (cl.2.1 b).2.2.2 with
          | false => exact va_put (D := D) (ci := o1) (v := qx_rv ads v) (ty := ty) (C := cl.1) (T := cl.2.1) (N := cl.2.2) hx hb hts (qx_lays cl (List.mem_of_getElem? hcl)) ty0 hty0 hnm hown hV.1 hP hD hS i (qx_nw_at hi) hcl b hb9 (hts _ (qx_inb_of hw)) (fun _ h8 => h8) hf q1 q2 q3 (by rw [List.length_map]; exact hbl) hd fin
          | true =>
            have hown2 : (cl.2.1 b).1 = own := by
              rcases hfin with h | h
              · rw [hf] at h; cases h
              · exact h
            exact va_putF (D := D) (ci := o1) (v := qx_rv ads v) (ty := ty) (C := cl.1) (T := cl.2.1) (N := cl.2.2) hx hb hts (qx_lays cl (List.mem_of_getElem? hcl)) ty0 hty0 hnm hown hV.1 hP hD hS i (qx_nw_at hi) hcl b hb9 (hts _ (qx_inb_of hw)) (fun _ h8 => h8) hf (hname _ rfl) hown2 q1 q2 q3 (by rw [List.length_map]; exact hbl) hd fin
        · cases ha
      · cases ha
    · cases ha
  | aastore =>
    simp only [qx_nact] at ha
    split at ha
    · rename_i v j i st'
      split at ha
      · rename_i t o hi hv
        split at ha
        · rename_i h9
          obtain ⟨h1, h2, h3, h4⟩ := h9
          obtain rfl := qx_ngo_inj ha
          obtain ⟨t1, tn, vs⟩ := t
          obtain ⟨o1, o2⟩ := o
          obtain rfl : t1 = 3 := h1
          obtain rfl : o1 = 4 := h2
          obtain ⟨hc, hP, hD⟩ := hW
          have hvl : v < cs.length := (List.getElem?_eq_some_iff.mp hv).1
          have hlen : (cs.set i (.inr (3, tn, vs ++ [v]))).length = cs.length := List.length_set
          have hsl : qx_nsl (cs.set i (.inr (3, tn, vs ++ [v]))) = qx_nsl cs := qx_nsl_set hi rfl
          have hce : qx_nce cs.length (.inr (3, tn, vs ++ [v])) = true := by
            have h7 : vs.all (fun v => decide (v < cs.length)) = true := hc _ (List.mem_of_getElem? hi)
            show (vs ++ [v]).all (fun v => decide (v < cs.length)) = true
            rw [List.all_append, h7]
            simpa using hvl
          refine ⟨by dsimp only; rw [hlen]; exact Nat.le_refl _, by dsimp only; rw [hsl]; exact Nat.le_refl _, fun kk => ?_⟩
          refine va_astq (D := D) hx hb hV.1 hP hD hS i 3 v 4 (r := (RX4, TX4, 6)) (vs := o2.map (qx_rv ads)) (qx_nw_at hi) rfl (qx_nw_at hv) rfl h3 hd (fun H1 locs1 g1 g2 g3 => ?_)
          have e1 : (va_up (fun j => (vs[j]?).map ads) j.toNatClampNeg (some (ads v)) : Nat → Option Nat) = fun j => ((vs ++ [v])[j]?).map ads := by
            funext z
            unfold va_up
            dsimp only at h4
            rw [h4]
            by_cases hz : z = vs.length
            · subst hz
              simp
            · rw [if_neg hz]
              show Option.map ads vs[z]? = Option.map ads (vs ++ [v])[z]?
              by_cases hz2 : z < vs.length
              · rw [List.getElem?_append_left hz2]
              · rw [List.getElem?_eq_none (l := vs) (i := z) (by omega), List.getElem?_eq_none (l := vs ++ [v]) (i := z) (by rw [List.length_append, List.length_singleton]; omega)]
          rw [e1] at g1 g2
          have e2 := qx_nw_set (cy := cy) (ads := ads) (e := .inr (3, tn, vs ++ [v])) hi
          have e3 : qx_ne cy ads (.inr (3, tn, vs ++ [v])) = .inl (cy 3, tn, .inr (.inr (.inr (.inr (fun j => ((vs ++ [v])[j]?).map ads))))) := rfl
          rw [e3] at e2
          rw [e2] at g1 g2
          have h6 := kk H1 locs1 lsA ads qx_agr_rf ⟨qx_nci_set hc hce, g1, g2⟩ g3 hl hn
          dsimp only at h6
          rw [hlen, hsl] at h6
          simp only [Nat.sub_self, Nat.add_zero] at h6
          exact h6
        · cases ha
      · cases ha
    · cases ha
  | invokespecial n =>
    simp only [qx_nact] at ha
    split at ha
    · rename_i i st'
      split at ha
      · rename_i h9
        split at ha
        · rename_i h8
          subst h8
          dsimp only at ok
          rw [if_pos rfl] at ok
          refine same _ _ _ (qx_ngo_inj ha) (fun kk => ?_)
          have hsum := qx_sum4 ads st' 4 h9
          exact W.objInit hx hb hown (hts _ (qx_inb_of ok)) (hts _ (qx_in (by decide +kernel))) (hts _ (qx_in (by decide +kernel))) rfl (by rw [hml]; exact hl.1) rfl hd (by omega) (by show 2 * 0 + _ + 12 ≤ _; omega) (kk lsA hl hn)
        · split at ha
          · cases ha
          · cases ha
      · cases ha
    · cases ha
  | return_ =>
    simp only [qx_nact] at ha
    split at ha <;> cases ha
  | _ => simp [qx_nact, qx_ngo, qx_nst] at ha
end QXNS
