/-! Calls of constructors, and all of a run of them. -/
def qx_isRet (i : Instr) : Bool := match i with
  | .return_ => true
  | _ => false
def qx_isPut (i : Instr) : Bool := match i with
  | .putfield _ => true
  | _ => false
theorem qx_ntab : ∀ y, y < 10 → (match qx_nks[y]? with
    | some k => k.all (fun e => (y != 9 || (! qx_isPut e.2.1 && (e.1 != 28 || qx_isRet e.2.1))))
    | none => false) = true := by decide +kernel
theorem qx_ncode_in {y pc : Nat} {e : qxE} (h : qx_ncode y pc = some e) : e.1 = pc ∧ ∃ k, qx_nks[y]? = some k ∧ e ∈ k := by
  unfold qx_ncode at h
  cases hk : qx_nks[y]? with
  | none => rw [hk] at h; cases h
  | some k =>
    rw [hk] at h
    have h1 := List.find?_some h
    exact ⟨by simpa using h1, k, rfl, List.mem_of_find?_eq_some h⟩
theorem qx_ncode_ok {y pc : Nat} {e : qxE} {i : String × MethodName × ByteArray × Nat} (h : qx_ncode y pc = some e) (hi : qx_nis[y]? = some i) : (qx_isRet e.2.1 = false ∨ y < 9 → qx_nokE i.1 i.2.2.1 e = true) ∧ (qx_isPut e.2.1 = true → y < 9) := by
  obtain ⟨h1, k, hk, hm⟩ := qx_ncode_in h
  have hy : y < 10 := (List.getElem?_eq_some_iff.mp hk).1
  have h2 := qx_nok_all y hy
  rw [hk, hi] at h2
  have h3 := List.all_eq_true.mp h2 e hm
  have h4 := qx_ntab y hy
  rw [hk] at h4
  have h5 := List.all_eq_true.mp h4 e hm
  simp only [Bool.or_eq_true, Bool.and_eq_true, beq_iff_eq, bne_iff_ne, ne_eq, Bool.not_eq_true'] at h3 h5
  constructor
  · intro hr
    rcases h3 with ⟨g1, g2⟩ | h3
    · rcases h5 with h5 | ⟨-, h5 | h5⟩
      · exact absurd g1 h5
      · exact absurd g2 h5
      · rcases hr with hr | hr
        · rw [hr] at h5; cases h5
        · omega
    · exact h3
  · intro hp
    rcases h5 with h5 | ⟨h5, -⟩
    · omega
    · rw [hp] at h5; cases h5
theorem qx_nstop {e : qxE} {ls : qxL} {st : List Value} {cs : qxN} {u : Unit} (h : qx_nact e ls st cs = some (.inr (.inl u))) : qx_isRet e.2.1 = true ∧ st = [] := by
  obtain ⟨pc, ins, np, a, b, w⟩ := e
  cases ins with
  | return_ =>
    simp only [qx_nact] at h
    split at h
    · exact ⟨rfl, rfl⟩
    · cases h
  | if_icmp k n => cases k <;> (simp only [qx_nact, qx_ngo] at h; repeat' split at h) <;> first | (cases h; done) | (simp at h; done)
  | _ =>
    exfalso
    simp only [qx_nact, qx_ngo, qx_nst] at h
    repeat' split at h
    all_goals first | (cases h; done) | (simp at h; done)
theorem qx_ncall {e : qxE} {ls : qxL} {st : List Value} {cs : qxN} {c : Nat × Nat × List Value} (h : qx_nact e ls st cs = some (.inr (.inr c))) : ∃ n : Nat, e.2.1 = .invokespecial n ∧ st = .ref c.2.1 :: c.2.2 ∧ c.2.2.length ≤ 4 ∧ e.2.2.2.1 = c.1 ∧ qx_nls cs.length ls = true ∧ c.2.2.all (qx_nok cs.length) = true ∧ c.2.1 < cs.length ∧ c.1 < 9 := by
  obtain ⟨pc, ins, np, a, b, w⟩ := e
  cases ins with
  | invokespecial n =>
    simp only [qx_nact] at h
    split at h
    · rename_i i st'
      split at h
      · rename_i h9
        split at h
        · simp [qx_ngo] at h
        · split at h
          · rename_i h8
            cases h
            exact ⟨n, rfl, rfl, h9, rfl, h8.1, h8.2.1, h8.2.2.1, h8.2.2.2⟩
          · cases h
      · cases h
    · cases h
  | if_icmp k n => cases k <;> (simp only [qx_nact, qx_ngo] at h; repeat' split at h) <;> first | (cases h; done) | (simp at h; done)
  | _ =>
    exfalso
    simp only [qx_nact, qx_ngo, qx_nst] at h
    repeat' split at h
    all_goals first | (cases h; done) | (simp at h; done)
def qx_nmot (l : Launch) (D : va_G) (cy : Nat → ClassId) (d y pc : Nat) (ls : qxL) (st : List Value) (cs : qxN) (r : Nat × qxL × qxN) : Prop :=
  cs.length ≤ r.2.2.length ∧ qx_nsl cs ≤ qx_nsl r.2.2 ∧ (∃ e, qx_ncode y r.1 = some e ∧ qx_isRet e.2.1 = true) ∧ ∀ (p : Program) (e : Env) (R : Room) (s : State) (m : MethodId) (args : Array Value) (below : List Frame) (meth : Method) (c : Code) (H : Heap) (locs : List Loc) (cells slots : Nat) (Q : State → Prop) (A : Nat → Prop) (lsA : Array Slot) (ads : Nat → Nat) (i : String × MethodName × ByteArray × Nat) (rt : Option FieldType),
    qx_nis[y]? = some i → qx_F p s m args meth c i.1 i.2.2.1 i.2.2.2 rt → (y < 9 → meth.name = "<init>") → qx_NV D cy s → (∀ q, s.heap.size ≤ q → A q) → d + 2 ≤ R.frames → 41 * d + 60 ≤ R.locals → cells + (r.2.2.length - cs.length) ≤ R.cells → slots + (qx_nsl r.2.2 - qx_nsl cs) ≤ R.slots →
    qx_nW D cy A ads cs H → va_S A s.heap H locs → lv_has lsA i.2.2.2 (qx_lv ads 0 ls) → ls.length = i.2.2.2 →
    (∀ (H1 : Heap) (locs1 : List Loc) (lsA1 : Array Slot) (ads1 : Nat → Nat), qx_agr cs.length ads ads1 → qx_nW D cy A ads1 r.2.2 H1 → va_S A s.heap H1 locs1 → lv_has lsA1 i.2.2.2 (qx_lv ads1 0 r.2.1) → r.2.1.length = i.2.2.2 →
      W p l e R s m args below meth c H1 locs1 (cells + (r.2.2.length - cs.length)) (slots + (qx_nsl r.2.2 - qx_nsl cs)) Q (F0 m r.1 lsA1 [])) →
    W p l e R s m args below meth c H locs cells slots Q (F0 m pc lsA (st.map (qx_rv ads)))
def qx_nA (ads : Nat → Nat) (n sz : Nat) : Nat → Prop := fun q => (∃ k, k < n ∧ q = ads k) ∨ sz ≤ q
def qx_nPre (D : va_G) (cy : Nat → ClassId) (ads : Nat → Nat) (cs : qxN) (sz : Nat) : State → Prop := fun U => U.heap.size = sz ∧ qx_nW D cy (qx_nA ads cs.length sz) ads cs U.heap ∧ qx_NV D cy U
theorem qx_nblind {D : va_G} {cy : Nat → ClassId} {ads : Nat → Nat} {cs : qxN} {sz : Nat} {av : List Value} : FrameBlind (va_Pc av (qx_nPre D cy ads cs sz)) := by
  intro a U g mk h
  obtain ⟨h1, hsz, hW, hV⟩ := h
  exact ⟨h1, hsz, hW, qx_NV.warm (s := U) (State.WarmedH.refl U) hV⟩
theorem qx_nD_self {cy : Nat → ClassId} {A : Nat → Prop} {ads : Nat → Nat} {cs : qxN} {sz : Nat} (h : va_D A (qx_nw cy ads cs)) : va_D (qx_nA ads cs.length sz) (qx_nw cy ads cs) := by
  refine ⟨h.1, fun k q hk => ?_⟩
  have hl : k < cs.length := by
    have h1 := (List.getElem?_eq_some_iff.mp hk).1
    unfold qx_nw at h1
    rwa [List.length_mapIdx] at h1
  rw [qx_nw_at (List.getElem?_eq_getElem hl)] at hk
  cases hk
  exact Or.inl ⟨k, hl, rfl⟩
theorem qx_nA_in {D : va_G} {cy : Nat → ClassId} {A : Nat → Prop} {ads : Nat → Nat} {cs : qxN} {H H0 : Heap} {locs : List Loc} (hW : qx_nW D cy A ads cs H) (hS : va_S A H0 H locs) (hA : ∀ q, H0.size ≤ q → A q) : ∀ q, qx_nA ads cs.length H.size q → A q := by
  intro q h
  rcases h with ⟨k, hk, rfl⟩ | h
  · exact hW.2.2.2 k _ (qx_nw_at (List.getElem?_eq_getElem hk))
  · exact hA q (Nat.le_trans hS.1 h)
def qx_nrm (d mc ms : Nat) : Room := { frames := d + 2, cells := mc, slots := ms, locals := 41 * d + 60 }
theorem qx_nci_all : ∀ y, y < 9 → (match qx_nis[y]? with
    | some i => plainName i.2.1.cls && (decide (i.2.1.cls = i.1) && (decide (i.2.1.name = "<init>") && (decide ((parseMethodDescriptor i.2.1.desc).map (fun d => d.parameters.length) = some 0) && (qx_inb (.initialized i.2.1.cls) && (qx_inb (.instanceMethod i.2.1) && (qx_inb (.code i.2.1 i.2.2.1 i.2.2.2 none) && (decide (i.2.1.cls ≠ "java/lang/invoke/MethodHandle" ∧ i.2.1.cls ≠ "java/lang/invoke/VarHandle") && decide (1 ≤ i.2.2.2 ∧ i.2.2.2 ≤ 2))))))))
    | none => false) = true := by decide +kernel
section QXNT
variable {l : Launch} {D : va_G} {cy : Nat → ClassId}
theorem qx_nmet {d y i : Nat} {ci : String × MethodName × ByteArray × Nat} {cs : qxN} {r : Nat × qxL × qxN} {ads : Nat → Nat} {sz : Nat} (hy : y < 9) (hci : qx_nis[y]? = some ci) (ih : qx_nmot l D cy d y 0 (some (.ref i) :: List.replicate (qx_nml y - 1) none) [] cs r) :
    Met l ci.2.1 (Cond.code ci.2.1 ci.2.2.1 ci.2.2.2 none :: qx_gts) (qx_nrm d (r.2.2.length - cs.length) (qx_nsl r.2.2 - qx_nsl cs)) (va_Pc [.ref (ads i)] (qx_nPre D cy ads cs sz)) (fun _ st o t => o = .returned none ∧ (∃ ads1, qx_agr cs.length ads ads1 ∧ qx_nW D cy (qx_nA ads cs.length sz) ads1 r.2.2 t.heap) ∧ va_F (qx_nA ads cs.length sz) st t) (r.2.2.length - cs.length) (qx_nsl r.2.2 - qx_nsl cs) (qx_nA ads cs.length sz) := by
  have hall9 := qx_nci_all y hy
  rw [hci] at hall9
  simp only [Bool.and_eq_true, decide_eq_true_eq] at hall9
  obtain ⟨hpl, hcls, hnm, hde, w1, w2, w3, hmh, hmx⟩ := hall9
  refine qx_ofM (hh := []) (cc := ci.2.2.1) (mx := ci.2.2.2) (rt := none) hpl ?_
  intro p e s m args below meth c s₁ B hml htab hv
  obtain ⟨rfl, hsz, hW, hV⟩ := hv
  subst hsz
  have hall := atoms_spec (ws := Cond.code ci.2.1 ci.2.2.1 ci.2.2.2 none :: qx_gts) B.pre
  have hown : s.vm.findClass ci.1 = some m.cls := by rw [← hcls]; exact findClass_of_methodNamed B.named
  have F : qx_F p s m (#[Value.ref (ads i)]) meth c ci.1 ci.2.2.1 ci.2.2.2 none := ⟨B.exec, B.bytes, B.returns, hml, hown, fun w hw => hall w (List.mem_cons_of_mem _ hw), B.notSynchronized⟩
  have hname : meth.name = "<init>" := by rw [(name_of_methodNamed B.named B.method).1]; exact hnm
  obtain ⟨hl, hlen⟩ := qx_entry (ad := ads) (as := [.ref i]) (mx := ci.2.2.2) rfl hmx.1
  have hml2 : qx_nml y = ci.2.2.2 := by unfold qx_nml; rw [hci]
  have hen : qx_en ci.2.2.2 [Value.ref i] = some (.ref i) :: List.replicate (qx_nml y - 1) none := by rw [hml2]; rfl
  rw [hen] at hl hlen
  rw [lg_entry_eq]
  obtain ⟨e9, he9, hret⟩ := ih.2.2.1
  have hok9 := (qx_ncode_ok he9 hci).1 (Or.inr hy)
  have hpc9 := (qx_ncode_in he9).1
  obtain ⟨pc9, ins9, np9, a9, b9, w9⟩ := e9
  obtain rfl : pc9 = r.1 := hpc9
  obtain rfl : ins9 = .return_ := by
    cases ins9 <;> first | rfl | (cases hret; done)
  unfold qx_nokE at hok9
  simp only [Bool.and_eq_true, decide_eq_true_eq] at hok9
  obtain ⟨hd9, -, hnp9, -⟩ := hok9
  rw [hnp9, Nat.add_sub_cancel_left] at hd9
  refine ih.2.2.2 p e (qx_nrm d (r.2.2.length - cs.length) (qx_nsl r.2.2 - qx_nsl cs)) s m _ below meth c s.heap [] 0 0 _ (qx_nA ads cs.length s.heap.size) _ ads ci none hci F (fun _ => hname) hV (fun q h => Or.inr h) (Nat.le_refl _) (Nat.le_refl _) (by show 0 + _ ≤ _; rw [Nat.zero_add]; exact Nat.le_refl _) (by show 0 + _ ≤ _; rw [Nat.zero_add]; exact Nat.le_refl _) hW va_S.rf hl hlen ?_
  intro H1 locs1 lsA1 ads1 hag hW1 hS1 hl1 hn1
  obtain ⟨hx, hb, hr, hml, hown, hts, hlocks⟩ := F
  rw [Nat.zero_add, Nat.zero_add]
  exact W.vret hx hb hr (fun t ht _ => ⟨rfl, ⟨ads1, hag, by rw [ht]; exact hW1⟩, hS1.F ht⟩) hS1.2.2 hd9 hlocks
end QXNT
section QXNU
variable {p : Program} {l : Launch} {e : Env} {R : Room} {s : State} {m : MethodId} {args : Array Value} {below : List Frame} {meth : Method} {c : Code} {H : Heap} {locs : List Loc} {cells slots : Nat} {Q : State → Prop}
theorem qx_nback {D : va_G} {cy : Nat → ClassId} {A0 A1 : Nat → Prop} {H0 : Heap} {ads : Nat → Nat} {n : Nat} {cs1 : qxN} {pc mc ms : Nat} {lsA : Array Slot} {st0 rest : List Value} {av : Array Value}
    (hr : va_Run p l e R s m args below meth c H locs cells slots mc ms (F0 m pc lsA st0) rest ((fun _ st o t => o = .returned none ∧ (∃ ads1, qx_agr n ads ads1 ∧ qx_nW D cy A1 ads1 cs1 t.heap) ∧ va_F A1 st t) av) A1) (hS : va_S A0 H0 H locs) (hA : ∀ q, A1 q → A0 q)
    (kk : ∀ (H1 : Heap) (locs1 : List Loc) (ads1 : Nat → Nat), qx_agr n ads ads1 → qx_nW D cy A0 ads1 cs1 H1 → va_S A0 H0 H1 locs1 → W p l e R s m args below meth c H1 locs1 (cells + mc) (slots + ms) Q (F0 m (pc + 3) lsA rest)) :
    W p l e R s m args below meth c H locs cells slots Q (F0 m pc lsA st0) := by
  intro T hT X
  obtain ⟨v, st₀, t, T', L, h0, X', hL, e1, e2, ⟨hv, ⟨ads1, hag, hc, hP, hD⟩, hz, hk⟩, st⟩ := hr T hT X
  cases hv
  rw [h0] at hz hk
  obtain ⟨t2, a1, b1⟩ := kk T'.heap (locs ++ L) ads1 hag ⟨hc, by rw [e1]; exact hP, hD.1, fun k q hq => hA _ (hD.2 k q hq)⟩
    ⟨Nat.le_trans hS.1 (by rw [e1]; exact hz), fun q h1 h2 => by rw [e1, hk q (Nat.lt_of_lt_of_le h1 hS.1) (fun z => h2 (hA q z))]; exact hS.2.1 q h1 h2, fun q hq => by
      rcases List.mem_append.mp hq with h | h
      · exact hS.2.2 q h
      · exact hA _ (hL q h)⟩ T' rfl X'
  exact ⟨t2, st t2 a1, b1⟩
end QXNU
section QXNV
variable {l : Launch} {D : va_G} {cy : Nat → ClassId}
set_option maxHeartbeats 4000000 in
theorem qx_nsound : ∀ (f d y pc : Nat) (ls : qxL) (st : List Value) (cs : qxN) (r : Nat × qxL × qxN), qx_nrun f d y pc ls st cs = some r → qx_nmot l D cy d y pc ls st cs r := by
  intro f
  induction f with
  | zero => intro d y pc ls st cs r h; cases h
  | succ f ih =>
  intro d y pc ls st cs r h
  unfold qx_nrun at h
  cases hc : qx_ncode y pc with
  | none => rw [hc] at h; cases h
  | some en =>
  rw [hc] at h
  dsimp only at h
  have hpc := (qx_ncode_in hc).1
  cases ha : qx_nact en ls st cs with
  | none => rw [ha] at h; cases h
  | some act =>
  rw [ha] at h
  rcases act with q | u | c9
  · -- a step
    dsimp only at h
    have IH := ih _ _ _ _ _ _ _ h
    obtain ⟨hm1, hm2, hm3, IH⟩ := IH
    have hnr : qx_isRet en.2.1 = false := by
      obtain ⟨pc', ins, np, a, b, w⟩ := en
      cases ins <;> first | rfl | (simp only [qx_nact] at ha; split at ha <;> cases ha)
    -- the counts grow: from any one frame (none is needed)
    have hmono : cs.length ≤ q.2.2.2.length ∧ qx_nsl cs ≤ qx_nsl q.2.2.2 := by
      obtain ⟨pc', ins, np, a, b, w⟩ := en
      clear IH hm1 hm2 hm3 h hc hpc hnr
      cases ins with
      | if_icmp k n => cases k <;> simp only [qx_nact, qx_ngo] at ha <;> (repeat' split at ha) <;> first | (cases ha; done) | (cases ha; exact ⟨Nat.le_refl _, Nat.le_refl _⟩) | (simp at ha; done)
      | _ =>
        simp only [qx_nact, qx_ngo, qx_nst] at ha
        repeat' split at ha
        all_goals first
          | (cases ha; done)
          | (cases ha; exact ⟨Nat.le_refl _, Nat.le_refl _⟩)
          | (cases ha; exact ⟨by simp, by rw [qx_nsl_push]; exact Nat.le_add_right _ _⟩)
          | (rename_i hi h9; cases ha; obtain ⟨rfl, -⟩ := h9; refine ⟨Nat.le_of_eq (Eq.symm List.length_set), Nat.le_of_eq (Eq.symm (qx_nsl_set hi ?_))⟩; rfl)
          | (rename_i hi hv h9; cases ha; refine ⟨Nat.le_of_eq (Eq.symm List.length_set), Nat.le_of_eq (Eq.symm (qx_nsl_set hi ?_))⟩; rfl)
          | (simp at ha; done)
          | skip
    refine ⟨Nat.le_trans hmono.1 hm1, Nat.le_trans hmono.2 hm2, hm3, ?_⟩
    intro p e R s m args below meth c H locs cells slots Q A lsA ads i rt hi F hname hV hA hR1 hR2 hR3 hR4 hW hS hl hn kk
    have hcd := qx_ncode_ok hc hi
    have hok := hcd.1 (Or.inl hnr)
    obtain ⟨pc', ins, np, a, b, w⟩ := en
    obtain rfl : pc' = pc := hpc
    refine (qx_nstep F hok (fun n hn9 => hname (hcd.2 (by dsimp only at hn9 ⊢; rw [hn9]; rfl))) hV hA (by omega) (by omega) (by omega) (by omega) hW hS hl hn ha).2.2 (fun H1 locs1 lsA1 ads1 hag hW1 hS1 hl1 hn1 => ?_)
    refine IH p e R s m args below meth c H1 locs1 _ _ Q A lsA1 ads1 i rt hi F hname hV hA hR1 hR2 (by omega) (by omega) hW1 hS1 hl1 hn1 (fun H2 locs2 lsA2 ads2 hag2 hW2 hS2 hl2 hn2 => ?_)
    have h8 := kk H2 locs2 lsA2 ads2 (fun k hk => by rw [hag2 k (by omega), hag k hk]) hW2 hS2 hl2 hn2
    exact W.cs (by omega) (by omega) h8
  · -- the end
    dsimp only at h
    obtain ⟨hret, rfl⟩ := qx_nstop ha
    cases h
    refine ⟨Nat.le_refl _, Nat.le_refl _, ⟨en, hc, hret⟩, ?_⟩
    intro p e R s m args below meth c H locs cells slots Q A lsA ads i rt hi F hname hV hA hR1 hR2 hR3 hR4 hW hS hl hn kk
    have h8 := kk H locs lsA ads qx_agr_rf hW hS hl hn
    simp only [Nat.sub_self, Nat.add_zero] at h8
    exact h8
  · -- a call
    dsimp only at h
    obtain ⟨n, hins, rfl, hst4, hae, hls, hst, hi9, hy9⟩ := qx_ncall ha
    cases d with
    | zero => cases h
    | succ d1 =>
    dsimp only at h
    cases h1 : qx_nrun f d1 c9.1 0 (some (.ref c9.2.1) :: List.replicate (qx_nml c9.1 - 1) none) [] cs with
    | none => rw [h1] at h; cases h
    | some r1 =>
    rw [h1] at h
    dsimp only at h
    have ih1 := ih _ _ _ _ _ _ _ h1
    obtain ⟨hm1, hm2, hm3, IH⟩ := ih _ _ _ _ _ _ _ h
    refine ⟨Nat.le_trans ih1.1 hm1, Nat.le_trans ih1.2.1 hm2, hm3, ?_⟩
    intro p e R s m args below meth c H locs cells slots Q A lsA ads i rt hi F hname hV hA hR1 hR2 hR3 hR4 hW hS hl hn kk
    have hcd := qx_ncode_ok hc hi
    have hok := hcd.1 (Or.inl (by rw [hins]; rfl))
    obtain ⟨pc', ins, np, a, b, w⟩ := en
    obtain rfl : pc' = pc := hpc
    obtain rfl : ins = .invokespecial n := hins
    obtain rfl : a = c9.1 := hae
    unfold qx_nokE at hok
    simp only [Bool.and_eq_true, decide_eq_true_eq] at hok
    obtain ⟨hd, hpc, rfl, hok⟩ := hok
    rw [Nat.add_sub_cancel_left] at hd
    rw [if_neg (by omega)] at hok
    cases hci : qx_nis[c9.1]? with
    | none => rw [hci] at hok; cases hok
    | some ci =>
    rw [hci] at hok
    dsimp only at hok
    have hM := qx_nmet (D := D) (cy := cy) (ads := ads) (sz := H.size) hy9 hci ih1
    have hall9 := qx_nci_all c9.1 hy9
    rw [hci] at hall9
    simp only [Bool.and_eq_true, decide_eq_true_eq] at hall9
    obtain ⟨hpl, hcls, hnm, hde, w1, w2, w3, hmh, hmx⟩ := hall9
    have F1 := F
    obtain ⟨hx, hb, hr, hml, hown, hts, hlocks⟩ := F1
    have hG : GoodIn qx_gts (Cond.code ci.2.1 ci.2.2.1 ci.2.2.2 none :: qx_gts) := qx_good_all (by
      intro w9 hw9
      rcases List.mem_cons.mp hw9 with rfl | h9
      · exact qx_inb_of w3
      · exact h9)
    have hroom : (qx_nrm d1 (r1.2.2.length - cs.length) (qx_nsl r1.2.2 - qx_nsl cs)).frames + 1 ≤ R.frames ∧ 8 + (ci.2.2.2 + 11) + (qx_nrm d1 (r1.2.2.length - cs.length) (qx_nsl r1.2.2 - qx_nsl cs)).locals ≤ R.locals := by
      constructor
      · show d1 + 2 + 1 ≤ R.frames; omega
      · show 8 + (ci.2.2.2 + 11) + (41 * d1 + 60) ≤ R.locals; omega
    have hsum := qx_sum4 ads c9.2.2 4 hst4
    have hm4 := ih1.1
    have hm5 := ih1.2.1
    have hf9 : cells + (r1.2.2.length - cs.length) ≤ R.cells ∧ slots + (qx_nsl r1.2.2 - qx_nsl cs) ≤ R.slots := ⟨by omega, by omega⟩
    have hpre : ∀ U : State, U.heap = H → s.WarmedH U.vm → va_Pc [.ref (ads c9.2.1)] (qx_nPre D cy ads cs H.size) ([Value.ref (ads c9.2.1)]).toArray U := by
      intro U hU hWm
      refine ⟨rfl, by rw [hU], ?_, hV.warm hWm⟩
      rw [hU]
      exact ⟨hW.1, hW.2.1, qx_nD_self hW.2.2⟩
    have hkk : ∀ (H1 : Heap) (locs1 : List Loc) (ads1 : Nat → Nat), qx_agr cs.length ads ads1 → qx_nW D cy A ads1 r1.2.2 H1 → va_S A s.heap H1 locs1 → W p l e R s m args below meth c H1 locs1 (cells + (r1.2.2.length - cs.length)) (slots + (qx_nsl r1.2.2 - qx_nsl cs)) Q (F0 m (pc' + 3) lsA (c9.2.2.map (qx_rv ads))) := by
      intro H1 locs1 ads1 hag hW1 hS1
      rw [← qx_nst_agr hag hst]
      refine IH p e R s m args below meth c H1 locs1 _ _ Q A lsA ads1 i rt hi F hname hV hA hR1 hR2 (by omega) (by omega) hW1 hS1 (by rw [qx_nlv_agr hag ls 0 hls]; exact hl) hn (fun H2 locs2 lsA2 ads2 hag2 hW2 hS2 hl2 hn2 => ?_)
      have h8 := kk H2 locs2 lsA2 ads2 (fun k hk => by rw [hag2 k (by omega), hag k hk]) hW2 hS2 hl2 hn2
      exact W.cs (by omega) (by omega) h8
    split at hok
    · exact qx_nback (av := #[]) (va_runI (As := []) (b := ads c9.2.1) (rest := c9.2.2.map (qx_rv ads)) (g := F0 m pc' lsA ((Value.ref c9.2.1 :: c9.2.2).map (qx_rv ads))) ⟨hx, hb, hml, hown, hts⟩ hM
        (cwI 0 hts hG (ws' := qx_gts) rfl rfl rfl (hts _ (qx_inb_of w1)) (hts _ (qx_inb_of hok)) (hts _ (qx_inb_of w2)) hnm ⟨hmh.1, hmh.2, hde⟩ hroom)
        ⟨qx_nblind, hpre⟩ rfl rfl hl.1 rfl (lv_room hsum) hd hf9) hS (qx_nA_in hW hS hA) hkk
    · simp only [Bool.and_eq_true, decide_eq_true_eq] at hok
      exact qx_nback (av := #[]) (va_runIN (As := []) (b := ads c9.2.1) (host := "PupilPairs") (rest := c9.2.2.map (qx_rv ads)) (g := F0 m pc' lsA ((Value.ref c9.2.1 :: c9.2.2).map (qx_rv ads))) ⟨hx, hb, hml, hown, hts⟩ hM
        ⟨va_cnB 0 hts hG (ws' := qx_gts) rfl rfl rfl (hV.2.2 _ hok.2 hok.1) (hts _ (qx_inb_of w1)) ⟨hmh.1, hmh.2, hde⟩ hroom, hnm, hts _ (qx_inb_of w2)⟩
        ⟨qx_nblind, hpre⟩ rfl rfl hl.1 rfl (lv_room hsum) hd hf9) hS (qx_nA_in hW hS hA) hkk
end QXNV
