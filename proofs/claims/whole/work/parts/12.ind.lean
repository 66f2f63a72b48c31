/-! The small machine is the machine. -/
def qx_mot (l : Launch) (L : Nat) (xs : Nat → Int32) (D : va_G) (ad : Nat → Nat) (cy : Nat → ClassId) (d y pc : Nat) (ls : qxL) (st : List Value) (M : qxM) (x : Nat) (r : qxO) : Prop :=
  x ≤ r.2.2 ∧ ∀ (p : Program) (e : Env) (R : Room) (s : State) (m : MethodId) (args : Array Value) (below : List Frame) (meth : Method) (c : Code) (H : Heap) (locs : List Loc) (c0 s0 : Nat) (Q : State → Prop) (A : Nat → Prop) (lsA : Array Slot) (ci : qxI),
    qx_mis[y]? = some ci → qx_F p s m args meth c ci.1 ci.2.2.1 ci.2.2.2.1 ci.2.2.2.2.1 → c.exceptionTable.toList = tableOf ci.2.2.2.2.2.2.2.1 → qx_V D ad cy s → qx_K L xs ad A s s.heap → (∀ q, s.heap.size ≤ q → A q) →
    d + 8 ≤ R.frames → 41 * d + 200 ≤ R.locals → c0 + r.2.2 ≤ R.cells → s0 + 6 * r.2.2 ≤ R.slots →
    qx_W D ad cy A M H → va_S A s.heap H locs → lv_has lsA ci.2.2.2.1 (qx_lv ad 0 ls) → ls.length = ci.2.2.2.1 →
    (∀ v, r.1 = .inl v → ∀ (H1 : Heap) (locs1 : List Loc) (lsA1 : Array Slot) (pc1 : Nat) (ins : Instr), decode ci.2.2.1 pc1 = .ok (ins, 1) → qx_rok ci.2.2.2.2.1 ins v → qx_W D ad cy A r.2.1 H1 → va_S A s.heap H1 locs1 → W p l e R s m args below meth c H1 locs1 (c0 + r.2.2) (s0 + 6 * r.2.2) Q (F0 m pc1 lsA1 (v.toList.map (qx_rv ad)))) →
    (∀ E, r.1 = .inr E → ∃ (Qc : Array Value → State → Outcome → State → Prop) (XC : String → State → State → Prop) (free : Addr → Prop), Q = vx_MQ below Qc XC args s (c0 + r.2.2) (s0 + 6 * r.2.2) free ∧ (∀ z : Nat, A z → free z) ∧
      (∀ (t : State) (H1 : Heap) (locs1 : List Loc), qx_W D ad cy A r.2.1 H1 → va_S A s.heap H1 locs1 → s.vm.Alike t.vm → H1.size ≤ t.heap.size → (∀ q : Nat, q < H1.size → t.heap[q]? = H1[q]?) → XC E s t)) →
    W p l e R s m args below meth c H locs (c0 + x) (s0 + 6 * x) Q (F0 m pc lsA (st.map (qx_rv ad)))
theorem qx_frame_out {A : Nat → Prop} {s t : State} {H1 : Heap} {locs1 : List Loc} (h : va_S A s.heap H1 locs1) (hz : H1.size ≤ t.heap.size) (hq : ∀ q : Nat, q < H1.size → t.heap[q]? = H1[q]?) : va_F A s t :=
  ⟨Nat.le_trans h.1 hz, fun q h1 h2 => by rw [hq q (Nat.lt_of_lt_of_le h1 h.1)]; exact h.2.1 q h1 h2⟩
theorem qx_W.on {D : va_G} {ad : Nat → Nat} {cy : Nat → ClassId} {A : Nat → Prop} {M : qxM} {H1 H2 : Heap} (h : qx_W D ad cy A M H1) (hq : ∀ q : Nat, q < H1.size → H2[q]? = H1[q]?) : va_P D vwCl (qx_ws ad cy M) H2 :=
  fun k q hk => (h.1 k q hk).kept (hq q.1 (h.1 k q hk).lt)
section QXB
variable {l : Launch} {L : Nat} {xs : Nat → Int32} {D : va_G} {ad : Nat → Nat} {cy : Nat → ClassId}
theorem qx_okI_spec {ci : qxI} (h : qx_okI ci = true) : ci.2.1.cls = ci.1 ∧ plainName ci.1 = true ∧ (ci.1 ≠ "java/lang/invoke/MethodHandle" ∧ ci.1 ≠ "java/lang/invoke/VarHandle") ∧ ci.2.2.2.1 ≤ 22 ∧ (parseMethodDescriptor ci.2.1.desc).map (fun d => d.parameters.length) = some ci.2.2.2.2.2.2.1 ∧
    qx_cw ci ∈ qx_gts ∧ Cond.initialized ci.1 ∈ qx_gts ∧ (ci.2.2.2.2.2.1 = true → Cond.static ci.2.1 ∈ qx_gts) ∧ (ci.2.2.2.2.2.1 = false → ci.2.2.2.2.2.2.2.1 = [] ∧ Cond.instanceMethod ci.2.1 ∈ qx_gts ∧ Cond.selects ci.1 ci.2.1 ci.2.1 ∈ qx_gts) := by
  obtain ⟨own, y, cc, mx, rt, stt, n, hh, w1, w2, w3, w4⟩ := ci
  unfold qx_okI at h
  simp only [Bool.and_eq_true, decide_eq_true_eq] at h
  obtain ⟨h1, h2, h3, h4, h5, h6, h7, h8⟩ := h
  refine ⟨h1, h2, h3, h4, h5, qx_wd_in h6, qx_wd_in h7, ?_, ?_⟩
  · rintro rfl
    exact qx_wd_in h8
  · rintro rfl
    simp only [Bool.and_eq_true, decide_eq_true_eq] at h8
    exact ⟨h8.1, qx_wd_in h8.2.1, qx_wd_in h8.2.2⟩
/-- a callee that returns: its contract -/
theorem qx_metR {d y : Nat} {ci : qxI} {as : List Value} {M M1 : qxM} {v : Option Value} {x1 sz : Nat} (hci : qx_mis[y]? = some ci) (hok : qx_okI ci = true) (ih : qx_mot l L xs D ad cy d y 0 (qx_en ci.2.2.2.1 as) [] M 0 (.inl v, M1, x1))
    (hc : (as.all fun v => v.category == 1) = true) (hn : as.length ≤ ci.2.2.2.1) :
    Met l ci.2.1 (qx_cw ci :: qx_gts) (qx_rm d x1) (va_Pc (as.map (qx_rv ad)) (qx_Pre L xs D ad cy M sz)) (fun _ st o t => o = .returned (v.map (qx_rv ad)) ∧ va_P D vwCl (qx_ws ad cy M1) t.heap ∧ va_F (qx_AR ad sz) st t) x1 (6 * x1) (qx_AR ad sz) := by
  obtain ⟨hcls, hpl, hmh, hmx, hde, hcw, hini, hst, hin⟩ := qx_okI_spec hok
  refine qx_ofM (hh := ci.2.2.2.2.2.2.2.1) (cc := ci.2.2.1) (mx := ci.2.2.2.1) (rt := ci.2.2.2.2.1) (by rw [hcls]; exact hpl) ?_
  intro p e s m args below meth c s₁ B hml htab hv
  obtain ⟨rfl, hsz, hW, hV, hK⟩ := hv
  subst hsz
  have hall := atoms_spec (ws := qx_cwd ci.2.1 ci.2.2.1 ci.2.2.2.1 ci.2.2.2.2.1 ci.2.2.2.2.2.2.2.1 :: qx_gts) B.pre
  have hown : s.vm.findClass ci.1 = some m.cls := by rw [← hcls]; exact findClass_of_methodNamed B.named
  have F : qx_F p s m (as.map (qx_rv ad)).toArray meth c ci.1 ci.2.2.1 ci.2.2.2.1 ci.2.2.2.2.1 := ⟨B.exec, B.bytes, B.returns, hml, hown, fun w hw => hall w (List.mem_cons_of_mem _ hw), B.notSynchronized⟩
  obtain ⟨hl, hlen⟩ := qx_entry (ad := ad) hc hn
  rw [lg_entry_eq]
  have h9 := ih.2 p e (qx_rm d x1) s m (as.map (qx_rv ad)).toArray below meth c s.heap [] 0 0 (MQ below (fun _ st o t => o = .returned (v.map (qx_rv ad)) ∧ va_P D vwCl (qx_ws ad cy M1) t.heap ∧ va_F (qx_AR ad s.heap.size) st t) (as.map (qx_rv ad)).toArray s x1 (6 * x1) (qx_AR ad s.heap.size)) (qx_AR ad s.heap.size) _ ci hci F htab hV hK (fun q h => Or.inr h) (Nat.le_refl _) (Nat.le_refl _) (by show 0 + x1 ≤ x1; omega) (by show 0 + 6 * x1 ≤ 6 * x1; omega) hW va_S.rf hl hlen ?_ ?_
  · exact h9
  · intro v' hv' H1 locs1 lsA1 pc1 ins hd hrok hW1 hS1
    obtain rfl : v = v' := Sum.inl.inj hv'
    have h8 := qx_end (p := p) (l := l) (e := e) (R := qx_rm d x1) (below := below) (H := H1) (locs := locs1) (cells := x1) (slots := 6 * x1) (lsA := lsA1) (ad := ad) (Qc := fun _ st o t => o = .returned (v.map (qx_rv ad)) ∧ va_P D vwCl (qx_ws ad cy M1) t.heap ∧ va_F (qx_AR ad s.heap.size) st t) (free := qx_AR ad s.heap.size) F hd hrok (fun t ht _ => ⟨rfl, by rw [ht]; exact hW1.1, hS1.F ht⟩) hS1.2.2
    simp only [Nat.zero_add]
    exact h8
  · intro E hE
    cases hE
/-- a callee that throws -/
theorem qx_metX {d y : Nat} {ci : qxI} {as : List Value} {M M1 : qxM} {E : String} {x1 sz : Nat} (hci : qx_mis[y]? = some ci) (hok : qx_okI ci = true) (hh : ci.2.2.2.2.2.2.2.1 = []) (ih : qx_mot l L xs D ad cy d y 0 (qx_en ci.2.2.2.1 as) [] M 0 (.inr E, M1, x1))
    (hc : (as.all fun v => v.category == 1) = true) (hn : as.length ≤ ci.2.2.2.1) :
    vx_Met l ci.2.1 (qx_cw ci :: qx_gts) (qx_rm d x1) (va_Pc (as.map (qx_rv ad)) (qx_Pre L xs D ad cy M sz)) (fun _ _ _ _ => False) (fun E' st t => E' = E ∧ va_P D vwCl (qx_ws ad cy M1) t.heap ∧ va_F (qx_AR ad sz) st t) x1 (6 * x1) (qx_AR ad sz) := by
  obtain ⟨hcls, hpl, hmh, hmx, hde, hcw, hini, hst, hin⟩ := qx_okI_spec hok
  have hcw2 : qx_cw ci = qx_cwd ci.2.1 ci.2.2.1 ci.2.2.2.1 ci.2.2.2.2.1 [] := by unfold qx_cw; rw [hh]
  rw [hcw2]
  refine qx_ofX (cc := ci.2.2.1) (mx := ci.2.2.2.1) (rt := ci.2.2.2.2.1) (by rw [hcls]; exact hpl) ?_
  intro p e s m args below meth c s₁ B hml htab hv
  obtain ⟨rfl, hsz, hW, hV, hK⟩ := hv
  subst hsz
  have hall := atoms_spec (ws := qx_cwd ci.2.1 ci.2.2.1 ci.2.2.2.1 ci.2.2.2.2.1 [] :: qx_gts) B.pre
  have hown : s.vm.findClass ci.1 = some m.cls := by rw [← hcls]; exact findClass_of_methodNamed B.named
  have F : qx_F p s m (as.map (qx_rv ad)).toArray meth c ci.1 ci.2.2.1 ci.2.2.2.1 ci.2.2.2.2.1 := ⟨B.exec, B.bytes, B.returns, hml, hown, fun w hw => hall w (List.mem_cons_of_mem _ hw), B.notSynchronized⟩
  obtain ⟨hl, hlen⟩ := qx_entry (ad := ad) hc hn
  rw [lg_entry_eq]
  have h9 := ih.2 p e (qx_rm d x1) s m (as.map (qx_rv ad)).toArray below meth c s.heap [] 0 0 (vx_MQ below (fun _ _ _ _ => False) (fun E' st t => E' = E ∧ va_P D vwCl (qx_ws ad cy M1) t.heap ∧ va_F (qx_AR ad s.heap.size) st t) (as.map (qx_rv ad)).toArray s x1 (6 * x1) (qx_AR ad s.heap.size)) (qx_AR ad s.heap.size) _ ci hci F (by rw [htab, hh]) hV hK (fun q h => Or.inr h) (Nat.le_refl _) (Nat.le_refl _) (by show 0 + x1 ≤ x1; omega) (by show 0 + 6 * x1 ≤ 6 * x1; omega) hW va_S.rf hl hlen ?_ ?_
  · exact h9
  · intro v' hv'
    cases hv'
  · intro E' hE'
    obtain rfl : E = E' := Sum.inr.inj hE'
    refine ⟨_, _, _, by simp only [Nat.zero_add]; rfl, fun _ h => h, ?_⟩
    intro t H1 locs1 hW1 hS1 hvm hz hq
    exact ⟨rfl, hW1.on hq, qx_frame_out hS1 hz hq⟩
end QXB
