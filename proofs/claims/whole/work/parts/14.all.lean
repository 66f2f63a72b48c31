section QXJ
variable {l : Launch} {L : Nat} {xs : Nat → Int32} {D : va_G} {ad : Nat → Nat} {cy : Nat → ClassId}
/-- what the tables were checked for -/
def qx_OK : Prop := (∀ (y : Nat) (ci : qxI) (k : List qxE), qx_mis[y]? = some ci → qx_kcs[y]? = some k → k.all (qx_okE ci.1 ci.2.2.1) = true) ∧ (∀ (y : Nat) (ci : qxI), y < 394 → qx_mis[y]? = some ci → qx_okI ci = true) ∧ ∀ y : Nat, y < 395 → qx_okH y = true
theorem qx_code_in {y pc : Nat} {en : qxE} (h : qx_code y pc = some en) : en.1 = pc ∧ ∃ k, qx_kcs[y]? = some k ∧ en ∈ k := by
  unfold qx_code at h
  have h1 := List.find?_some h
  have h2 := List.mem_of_find?_eq_some h
  refine ⟨by simpa using h1, ?_⟩
  cases hk : qx_kcs[y]? with
  | none => rw [hk] at h2; cases h2
  | some k => rw [hk] at h2; exact ⟨k, rfl, h2⟩
theorem qx_args_spec {y : Nat} {as : List Value} {ci : qxI} (hci : qx_mis[y]? = some ci) (h : qx_args y as = true) : as.length ≤ ci.2.2.2.1 ∧ (as.all fun v => v.category == 1) = true ∧ (ci.2.2.2.2.2.1 = false → ∃ (i : Nat) (r : List Value), as = .ref i :: r ∧ qx_sh i = some (.inl (qx_cn y))) := by
  unfold qx_args at h
  simp only [Bool.and_eq_true, decide_eq_true_eq, Bool.or_eq_true] at h
  obtain ⟨h1, h2, h3⟩ := h
  refine ⟨by unfold qx_ml at h1; rw [hci] at h1; exact h1, h2, fun hs => ?_⟩
  rcases h3 with h3 | h3
  · unfold qx_ss at h3
    rw [hci] at h3
    dsimp only at h3
    rw [hs] at h3
    cases h3
  · cases as with
    | nil => cases h3
    | cons a r =>
      cases a with
      | ref i => exact ⟨i, r, rfl, by simpa using h3⟩
      | _ => cases h3
theorem qx_mis_len : qx_mis.length = 395 := by decide +kernel
set_option maxHeartbeats 4000000 in
theorem qx_sound (hflags : l.stackTraces = false) (hB : qx_B l L xs D ad cy) (hOK : qx_OK) : ∀ (d y pc : Nat) (ls : qxL) (st : List Value) (M : qxM) (x : Nat) (r : qxO), Rs L xs d y pc ls st M x = some r → qx_mot l L xs D ad cy d y pc ls st M x r := by
  apply Rs.partial_correctness L xs (motive := fun d y pc ls st M x r => qx_mot l L xs D ad cy d y pc ls st M x r)
  intro R9 ih d y pc ls st M x r h
  cases hc : qx_code y pc with
  | none => rw [hc] at h; cases h
  | some en =>
  rw [hc] at h
  dsimp only at h
  obtain ⟨hpc, k9, hk9, hmem⟩ := qx_code_in hc
  obtain ⟨pc', ins, np, a, b, w⟩ := en
  obtain rfl : pc' = pc := hpc
  cases ha : qx_act L xs (qx_rt y) (pc', ins, np, a, b, w) ls st M with
  | none => rw [ha] at h; cases h
  | some act =>
  rw [ha] at h
  rcases act with q | v | E | c9
  · -- a step
    dsimp only at h
    have IH := ih _ _ _ _ _ _ _ _ h
    refine ⟨IH.1, ?_⟩
    intro p e R s m args below meth c H locs c0 s0 Q A lsA ci hci F htab hV hK hA hR1 hR2 hR3 hR4 hW hS hl hlen hret hthr
    have hokE : qx_okE ci.1 ci.2.2.1 (pc', ins, np, a, b, w) = true := List.all_eq_true.mp (hOK.1 y ci k9 hci hk9) _ hmem
    have hrt : qx_rt y = ci.2.2.2.2.1 := by unfold qx_rt; rw [hci]
    rw [hrt] at ha
    have hle := IH.1
    have kk : ∀ (H1 : Heap) (locs1 : List Loc) (lsA1 : Array Slot), qx_W D ad cy A q.2.2.2 H1 → va_S A s.heap H1 locs1 → lv_has lsA1 ci.2.2.2.1 (qx_lv ad 0 q.2.1) → q.2.1.length = ci.2.2.2.1 → W p l e R s m args below meth c H1 locs1 (c0 + x) (s0 + 6 * x) Q (F0 m q.1 lsA1 (q.2.2.1.map (qx_rv ad))) := fun H1 locs1 lsA1 g1 g2 g3 g4 => IH.2 p e R s m args below meth c H1 locs1 c0 s0 Q A lsA1 ci hci F htab hV hK hA hR1 hR2 hR3 hR4 g1 g2 g3 g4 hret hthr
    have hRR : 8 ≤ R.frames ∧ 200 ≤ R.locals ∧ c0 + x ≤ R.cells ∧ s0 + 6 * x ≤ R.slots := ⟨by omega, by omega, by omega, by omega⟩
    by_cases hm : qx_mem ins = true
    · exact qx_heap hm F hokE hV hK hB hA hRR hW hS hl hlen ha kk
    · exact qx_plain (by simpa using hm) F hokE hV hK hB hA hRR hW hS hl hlen ha kk
  · -- a return
    dsimp only at h
    cases h
    refine ⟨Nat.le_refl _, ?_⟩
    intro p e R s m args below meth c H locs c0 s0 Q A lsA ci hci F htab hV hK hA hR1 hR2 hR3 hR4 hW hS hl hlen hret hthr
    have hokE : qx_okE ci.1 ci.2.2.1 (pc', ins, np, a, b, w) = true := List.all_eq_true.mp (hOK.1 y ci k9 hci hk9) _ hmem
    have hrt : qx_rt y = ci.2.2.2.2.1 := by unfold qx_rt; rw [hci]
    rw [hrt] at ha
    obtain ⟨hst, hd, hrok⟩ := qx_ret_act hokE ha
    rw [hst]
    exact hret v rfl H locs lsA pc' ins hd hrok hW hS
  · -- a throw
    dsimp only at h
    split at h
    · rename_i hnil
      cases h
      refine ⟨Nat.le_succ _, ?_⟩
      intro p e R s m args below meth c H locs c0 s0 Q A lsA ci hci F htab hV hK hA hR1 hR2 hR3 hR4 hW hS hl hlen hret hthr
      have hokE : qx_okE ci.1 ci.2.2.1 (pc', ins, np, a, b, w) = true := List.all_eq_true.mp (hOK.1 y ci k9 hci hk9) _ hmem
      obtain ⟨rfl, ha3, rfl, n, rfl⟩ := qx_thr_act ha
      obtain ⟨Qc, XC, free, rfl, hfree, hXC⟩ := hthr _ rfl
      have hnil2 : ci.2.2.2.2.2.2.2.1 = [] := by unfold qx_hh at hnil; rw [hci] at hnil; exact hnil
      exact qx_throw F hokE ha3 hflags hV hK ⟨by omega, by omega⟩ hS hl.1 (by rw [htab, hnil2]; rfl) (by dsimp only at hR3; omega) (by dsimp only at hR4; omega) (fun t hvm hz hq => hXC t H locs hW hS hvm hz hq) (fun z hz => hfree _ (hS.2.2 z hz)) (Nat.le_refl _) (by show s0 + 6 * x + 6 ≤ s0 + 6 * (x + 1); omega)
    · cases h
  · -- a call
    dsimp only at h
    cases d with
    | zero => cases h
    | succ d1 =>
    dsimp only at h
    split at h
    case isFalse => cases h
    rename_i hargs
    cases h1 : R9 d1 c9.1 0 (qx_en (qx_ml c9.1) c9.2.1) [] M 0 with
    | none => rw [h1] at h; cases h
    | some r1 =>
    rw [h1] at h
    have ih1 := ih _ _ _ _ _ _ _ _ h1
    obtain ⟨o1, M1, x1⟩ := r1
    simp only [bind, Option.bind] at h
    cases o1 with
    | inl v =>
      dsimp only at h
      have ih2 := ih _ _ _ _ _ _ _ _ h
      have hx2 := ih2.1
      refine ⟨Nat.le_trans (Nat.le_add_right _ _) ih2.1, ?_⟩
      intro p e R s m args below meth c H locs c0 s0 Q A lsA ci hci F htab hV hK hA hR1 hR2 hR3 hR4 hW hS hl hlen hret hthr
      have hokE : qx_okE ci.1 ci.2.2.1 (pc', ins, np, a, b, w) = true := List.all_eq_true.mp (hOK.1 y ci k9 hci hk9) _ hmem
      obtain ⟨rfl, rfl, hb1, hb2, ci', n, hci', ha4, hcase⟩ := qx_call_act hokE ha
      have hokI := hOK.2.1 a ci' ha4 hci'
      obtain ⟨hn1, hc1, hcn⟩ := qx_args_spec hci' hargs
      have hml : qx_ml a = ci'.2.2.2.1 := by unfold qx_ml; rw [hci']
      dsimp only at ih1 h1 h hargs hn1 hc1 hcn
      rw [hml] at ih1
      have hM := qx_metR (sz := H.size) hci' hokI ih1 hc1 hn1
      obtain ⟨hcls, hpl, hmh, hmx, hde, hcw, hini, hst9, hin9⟩ := qx_okI_spec hokI
      have hkk : ∀ (H1 : Heap) (locs1 : List Loc), va_P D vwCl (qx_ws ad cy M1) H1 → va_S A s.heap H1 locs1 → W p l e R s m args below meth c H1 locs1 (c0 + x + x1) (s0 + 6 * x + 6 * x1) Q (F0 m (pc' + 3) lsA ((v.map (qx_rv ad)).toList ++ (st.drop b).map (qx_rv ad))) := by
        intro H1 locs1 g1 g2
        rw [qx_vl]
        refine W.cs (show c0 + x + x1 = c0 + (x + x1) by omega) (show s0 + 6 * x + 6 * x1 = s0 + 6 * (x + x1) by omega) ?_
        exact ih2.2 p e R s m args below meth c H1 locs1 c0 s0 Q A lsA ci hci F htab hV hK hA hR1 hR2 hR3 hR4 (hW.keep g1) g2 hl hlen hret hthr
      have hroom : (qx_rm d1 x1).frames + 1 ≤ R.frames ∧ 8 + (ci'.2.2.2.1 + 11) + (qx_rm d1 x1).locals ≤ R.locals := by
        constructor
        · show d1 + 8 + 1 ≤ R.frames; omega
        · show 8 + (ci'.2.2.2.1 + 11) + (41 * d1 + 200) ≤ R.locals; omega
      have hsum := qx_sum4 ad (st.drop b) 4 hb2
      have hf9 : c0 + x + x1 ≤ R.cells ∧ s0 + 6 * x + 6 * x1 ≤ R.slots := ⟨by omega, by omega⟩
      have hst2 : st.map (qx_rv ad) = (((st.take b).reverse).map (qx_rv ad)).reverse ++ (st.drop b).map (qx_rv ad) := by
        rw [← List.map_reverse, List.reverse_reverse, ← List.map_append, List.take_append_drop]
      have F1 := F
      obtain ⟨hx, hbb, hr, hmlc, hown, hts, hlocks⟩ := F1
      rcases hcase with ⟨hd, hlk, hss, hbn⟩ | ⟨hd, hlk, hss, hbn⟩
      · -- of an object
        obtain ⟨hnil, hwi, hws⟩ := hin9 hss
        obtain ⟨i, As, hAs, hshi⟩ := hcn hss
        rw [hAs] at hM hst2
        have hlt : a < 334 := by
          rcases Nat.lt_or_ge a 334 with h7 | h7
          · exact h7
          · have h6 := qx_ss_hi a h7 ha4
            unfold qx_ss at h6
            rw [hci'] at h6
            dsimp only at h6
            rw [hss] at h6
            cases h6
        have hcn2 := qx_cn_ok a hlt
        rw [hci'] at hcn2
        cases hvc : vwCl[qx_cn a]? with
        | none => rw [hvc] at hcn2; cases hcn2
        | some vc =>
        rw [hvc] at hcn2
        have hC : ci'.1 = vc.1 := Option.some.inj hcn2
        obtain ⟨z, hz⟩ := qx_sh_at hshi
        have hrecv := va_recv (D := D) (tys := qx_tys cy) (s := s) hV.1 hW.1 hvc (qx_ws_at (ad := ad) (cy := cy) (M := M) hz)
        rw [← hC] at hrecv
        have hcode : qx_cw ci' = Cond.code ci'.2.1 ci'.2.2.1 ci'.2.2.2.1 ci'.2.2.2.2.1 := by unfold qx_cw; rw [hnil]; rfl
        have hG : GoodIn qx_gts (wsV ci.1 n ci'.1 ci'.2.1 (qx_cw ci' :: qx_gts)) := qx_good_all (by
          intro w9 hw9
          unfold wsV at hw9
          simp only [List.mem_append, List.mem_cons, List.not_mem_nil, or_false] at hw9
          rcases hw9 with (rfl | rfl | rfl | rfl) | rfl | h9
          · exact hlk
          · exact hwi
          · exact hws
          · exact hini
          · exact hcw
          · exact h9)
        have hnn : As.length = ci'.2.2.2.2.2.2.1 := by
          have h7 : ((st.take b).reverse).length = b := by simp [Nat.min_eq_left hb1]
          rw [hAs] at h7
          simp only [List.length_cons] at h7
          omega
        rw [hst2]
        exact qx_back (va_runV (As := As.map (qx_rv ad)) (b := ad i) (rest := (st.drop b).map (qx_rv ad)) (g := F0 m pc' lsA _) ⟨hx, hbb, hmlc, hown, hts⟩ hM
          (cwV ci'.2.2.2.2.2.2.1 hts hG (ws' := qx_gts) (by rw [hcode]) rfl rfl ⟨hcls, by rw [hcls]; exact hmh.1, by rw [hcls]; exact hmh.2, hde⟩ hroom)
          ⟨qx_blind, hrecv, qx_pre_at hW hV hK hS hA⟩ rfl (by rw [List.length_map]; exact hnn) hl.1 (by simp [qx_rv]) (lv_room hsum) hd hf9) hS (qx_AR_in hW hS hA) hkk
      · -- static
        have hnn : ((st.take b).reverse).length = ci'.2.2.2.2.2.2.1 := by
          rw [List.length_reverse, List.length_take, Nat.min_eq_left hb1]; exact hbn
        have hwst := hst9 hss
        rw [hst2]
        rcases hlk with hlk | hlk
        · have hG : GoodIn qx_gts (va_wsS ci.1 n ci'.2.1 (qx_cw ci' :: qx_gts)) := qx_good_all (by
            intro w9 hw9
            unfold va_wsS at hw9
            simp only [List.mem_append, List.mem_cons, List.not_mem_nil, or_false] at hw9
            rcases hw9 with (rfl | rfl | rfl) | rfl | h9
            · exact hlk
            · exact hwst
            · rw [hcls]; exact hini
            · exact hcw
            · exact h9)
          by_cases hnil : ci'.2.2.2.2.2.2.2.1 = []
          · have hcode : qx_cw ci' = Cond.code ci'.2.1 ci'.2.2.1 ci'.2.2.2.1 ci'.2.2.2.2.1 := by unfold qx_cw; rw [hnil]; rfl
            exact qx_back (va_runS (As := ((st.take b).reverse).map (qx_rv ad)) (rest := (st.drop b).map (qx_rv ad)) (g := F0 m pc' lsA _) ⟨hx, hbb, hmlc, hown, hts⟩ hM
              (va_cwS ci'.2.2.2.2.2.2.1 hts hG (ws' := qx_gts) (by rw [hcode]) rfl rfl ⟨by rw [hcls]; exact hmh.1, by rw [hcls]; exact hmh.2, hde⟩ hroom)
              ⟨qx_blind, qx_pre_at hW hV hK hS hA⟩ rfl (by rw [List.length_map]; exact hnn) hl.1 rfl (lv_room hsum) hd hf9) hS (qx_AR_in hW hS hA) hkk
          · obtain ⟨h0, hr9, hhe⟩ : ∃ h0 r9, ci'.2.2.2.2.2.2.2.1 = h0 :: r9 := by
              cases hq : ci'.2.2.2.2.2.2.2.1 with
              | nil => exact absurd hq hnil
              | cons h0 r9 => exact ⟨h0, r9, rfl⟩
            have hcode : qx_cw ci' = Cond.codeWith ci'.2.1 ci'.2.2.1 ci'.2.2.2.1 ci'.2.2.2.2.1 (h0 :: hr9) := by unfold qx_cw; rw [hhe]; rfl
            exact qx_back (vx_runSW (hh := h0 :: hr9) (As := ((st.take b).reverse).map (qx_rv ad)) (rest := (st.drop b).map (qx_rv ad)) (g := F0 m pc' lsA _) ⟨hx, hbb, hmlc, hown, hts⟩ hM
              (vx_cwSW ci'.2.2.2.2.2.2.1 hts hG (ws' := qx_gts) (by rw [hcode]) rfl rfl ⟨by rw [hcls]; exact hmh.1, by rw [hcls]; exact hmh.2, hde⟩ hroom)
              ⟨qx_blind, qx_pre_at hW hV hK hS hA⟩ rfl (by rw [List.length_map]; exact hnn) hl.1 rfl (lv_room hsum) hd hf9) hS (qx_AR_in hW hS hA) hkk
        · obtain ⟨hlk, hnil⟩ := hlk
          have hcode : qx_cw ci' = Cond.code ci'.2.1 ci'.2.2.1 ci'.2.2.2.1 ci'.2.2.2.2.1 := by unfold qx_cw; rw [hnil]; rfl
          have hG : GoodIn qx_gts (qx_cw ci' :: qx_gts) := qx_good_all (by
            intro w9 hw9
            rcases List.mem_cons.mp hw9 with rfl | h9
            · exact hcw
            · exact h9)
          exact qx_back (va_runSN (host := "PupilPairs") (As := ((st.take b).reverse).map (qx_rv ad)) (rest := (st.drop b).map (qx_rv ad)) (g := F0 m pc' lsA _) ⟨hx, hbb, hmlc, hown, hts⟩ hM
            ⟨va_cnB ci'.2.2.2.2.2.2.1 hts hG (ws' := qx_gts) (by rw [hcode]) rfl rfl (hV.2.1 _ hlk rfl) (hts _ (by rw [hcls]; exact hini)) ⟨by rw [hcls]; exact hmh.1, by rw [hcls]; exact hmh.2, hde⟩ hroom, hts _ hwst, trivial⟩
            ⟨qx_blind, qx_pre_at hW hV hK hS hA⟩ rfl (by rw [List.length_map]; exact hnn) hl.1 rfl (lv_room hsum) hd hf9) hS (qx_AR_in hW hS hA) hkk
    | inr E =>
      dsimp only at h
      split at h
      · cases h
      rename_i hssf
      -- in all cases: the count, and the frame behind the call with the exception thrown
      have hmain : ∀ (r : qxO), x + x1 ≤ r.2.2 → ∀ (p : Program) (e : Env) (R : Room) (s : State) (m : MethodId) (args : Array Value) (below : List Frame) (meth : Method) (c : Code) (H : Heap) (locs : List Loc) (c0 s0 : Nat) (Q : State → Prop) (A : Nat → Prop) (lsA : Array Slot) (ci : qxI),
          qx_mis[y]? = some ci → qx_F p s m args meth c ci.1 ci.2.2.1 ci.2.2.2.1 ci.2.2.2.2.1 → qx_V D ad cy s → qx_K L xs ad A s s.heap → (∀ q, s.heap.size ≤ q → A q) →
          d1 + 1 + 8 ≤ R.frames → 41 * (d1 + 1) + 200 ≤ R.locals → c0 + r.2.2 ≤ R.cells → s0 + 6 * r.2.2 ≤ R.slots → qx_W D ad cy A M H → va_S A s.heap H locs → lv_has lsA ci.2.2.2.1 (qx_lv ad 0 ls) →
          (∀ (rest : List Value) (ce : Cell) (q9 : Addr) (H1 : Heap) (locs1 : List Loc), qx_W D ad cy A M1 H1 → va_S A s.heap H1 locs1 → H1[q9]? = some ce → ce.vm = .none → s.vm.findClass E = some ce.cls → vx_W p l e R s m args below meth c H1 locs1 (c0 + (x + x1)) (s0 + 6 * (x + x1)) Q (F0 m pc' lsA rest) q9) →
          W p l e R s m args below meth c H locs (c0 + x) (s0 + 6 * x) Q (F0 m pc' lsA (st.map (qx_rv ad))) := by
        intro r hxr p e R s m args below meth c H locs c0 s0 Q A lsA ci hci F hV hK hA hR1 hR2 hR3 hR4 hW hS hl kx
        have hokE : qx_okE ci.1 ci.2.2.1 (pc', ins, np, a, b, w) = true := List.all_eq_true.mp (hOK.1 y ci k9 hci hk9) _ hmem
        obtain ⟨rfl, rfl, hb1, hb2, ci', n, hci', ha4, hcase⟩ := qx_call_act hokE ha
        have hokI := hOK.2.1 a ci' ha4 hci'
        obtain ⟨hn1, hc1, hcn⟩ := qx_args_spec hci' hargs
        have hml : qx_ml a = ci'.2.2.2.1 := by unfold qx_ml; rw [hci']
        dsimp only at ih1 h1 hargs hn1 hc1 hcn hssf
        rw [hml] at ih1
        have hss : ci'.2.2.2.2.2.1 = false := by
          unfold qx_ss at hssf
          rw [hci'] at hssf
          simpa using hssf
        obtain ⟨hcls, hpl, hmh, hmx, hde, hcw, hini, hst9, hin9⟩ := qx_okI_spec hokI
        obtain ⟨hnil, hwi, hws⟩ := hin9 hss
        have hM := qx_metX (sz := H.size) hci' hokI hnil ih1 hc1 hn1
        have hroom : (qx_rm d1 x1).frames + 1 ≤ R.frames ∧ 8 + (ci'.2.2.2.1 + 11) + (qx_rm d1 x1).locals ≤ R.locals := by
          constructor
          · show d1 + 8 + 1 ≤ R.frames; omega
          · show 8 + (ci'.2.2.2.1 + 11) + (41 * d1 + 200) ≤ R.locals; omega
        have hsum := qx_sum4 ad (st.drop b) 4 hb2
        have hf9 : c0 + x + x1 ≤ R.cells ∧ s0 + 6 * x + 6 * x1 ≤ R.slots := ⟨by omega, by omega⟩
        have hst2 : st.map (qx_rv ad) = (((st.take b).reverse).map (qx_rv ad)).reverse ++ (st.drop b).map (qx_rv ad) := by
          rw [← List.map_reverse, List.reverse_reverse, ← List.map_append, List.take_append_drop]
        obtain ⟨hx, hbb, hr, hmlc, hown, hts, hlocks⟩ := F
        rcases hcase with ⟨hd, hlk, -, hbn⟩ | ⟨hd, hlk, hss2, hbn⟩
        · obtain ⟨i, As, hAs, hshi⟩ := hcn hss
          rw [hAs] at hM hst2
          have hlt : a < 334 := by
            rcases Nat.lt_or_ge a 334 with h7 | h7
            · exact h7
            · have h6 := qx_ss_hi a h7 ha4
              unfold qx_ss at h6
              rw [hci'] at h6
              dsimp only at h6
              rw [hss] at h6
              cases h6
          have hcn2 := qx_cn_ok a hlt
          rw [hci'] at hcn2
          cases hvc : vwCl[qx_cn a]? with
          | none => rw [hvc] at hcn2; cases hcn2
          | some vc =>
          rw [hvc] at hcn2
          have hC : ci'.1 = vc.1 := Option.some.inj hcn2
          obtain ⟨z, hz⟩ := qx_sh_at hshi
          have hrecv := va_recv (D := D) (tys := qx_tys cy) (s := s) hV.1 hW.1 hvc (qx_ws_at (ad := ad) (cy := cy) (M := M) hz)
          rw [← hC] at hrecv
          have hcode : qx_cw ci' = Cond.code ci'.2.1 ci'.2.2.1 ci'.2.2.2.1 ci'.2.2.2.2.1 := by unfold qx_cw; rw [hnil]; rfl
          have hG : GoodIn qx_gts (wsV ci.1 n ci'.1 ci'.2.1 (qx_cw ci' :: qx_gts)) := qx_good_all (by
            intro w9 hw9
            unfold wsV at hw9
            simp only [List.mem_append, List.mem_cons, List.not_mem_nil, or_false] at hw9
            rcases hw9 with (rfl | rfl | rfl | rfl) | rfl | h9
            · exact hlk
            · exact hwi
            · exact hws
            · exact hini
            · exact hcw
            · exact h9)
          have hnn : As.length = ci'.2.2.2.2.2.2.1 := by
            have h7 : ((st.take b).reverse).length = b := by simp [Nat.min_eq_left hb1]
            rw [hAs] at h7
            simp only [List.length_cons] at h7
            omega
          rw [hst2]
          refine qx_backX (vx_runV (As := As.map (qx_rv ad)) (b := ad i) (rest := (st.drop b).map (qx_rv ad)) (g := F0 m pc' lsA _) ⟨hx, hbb, hmlc, hown, hts⟩ hM
            (cwV ci'.2.2.2.2.2.2.1 hts hG (ws' := qx_gts) (by rw [hcode]) rfl rfl ⟨hcls, by rw [hcls]; exact hmh.1, by rw [hcls]; exact hmh.2, hde⟩ hroom)
            ⟨qx_blind, hrecv, qx_pre_at hW hV hK hS hA⟩ rfl (by rw [List.length_map]; exact hnn) hl.1 (by simp [qx_rv]) (lv_room hsum) hd hf9) hS (qx_AR_in hW hS hA) (fun ce q9 H1 locs1 g1 g2 g3 g4 g5 => ?_)
          have h9 := kx ((st.drop b).map (qx_rv ad)) ce q9 H1 locs1 (hW.keep g1) g2 g3 g4 g5
          exact vx_widen (by omega) (by omega) h9
        · rw [hss] at hss2
          cases hss2
      cases hhd : qx_hd y pc' E with
      | none =>
        rw [hhd] at h
        dsimp only at h
        split at h
        · rename_i hnil
          cases h
          refine ⟨Nat.le_add_right _ _, ?_⟩
          intro p e R s m args below meth c H locs c0 s0 Q A lsA ci hci F htab hV hK hA hR1 hR2 hR3 hR4 hW hS hl hlen hret hthr
          refine hmain (.inr E, M1, x + x1) (Nat.le_refl _) p e R s m args below meth c H locs c0 s0 Q A lsA ci hci F hV hK hA hR1 hR2 hR3 hR4 hW hS hl ?_
          intro rest ce q9 H1 locs1 g1 g2 g3 g4 g5
          obtain ⟨Qc, XC, free, rfl, hfree, hXC⟩ := hthr _ rfl
          have hnil2 : ci.2.2.2.2.2.2.2.1 = [] := by unfold qx_hh at hnil; rw [hci] at hnil; exact hnil
          have htab2 : c.exceptionTable.toList = [] := by rw [htab, hnil2]; rfl
          exact vx_out (fun z hz => by rw [htab2] at hz; cases hz) F.2.2.2.2.2.2 g3 g4 g5 (fun t ht hvm => hXC t H1 locs1 g1 g2 hvm (by rw [ht]; exact Nat.le_refl _) (fun q _ => by rw [ht])) (fun z hz => hfree _ (g2.2.2 z hz)) (Nat.le_refl _) (Nat.le_refl _)
        · cases h
      | some hk =>
        obtain ⟨np2, k2⟩ := hk
        rw [hhd] at h
        dsimp only at h
        split at h
        · rename_i hk3
          have ih2 := ih _ _ _ _ _ _ _ _ h
          refine ⟨Nat.le_trans (Nat.le_add_right _ _) ih2.1, ?_⟩
          intro p e R s m args below meth c H locs c0 s0 Q A lsA ci hci F htab hV hK hA hR1 hR2 hR3 hR4 hW hS hl hlen hret hthr
          refine hmain r ih2.1 p e R s m args below meth c H locs c0 s0 Q A lsA ci hci F hV hK hA hR1 hR2 hR3 hR4 hW hS hl ?_
          intro rest ce q9 H1 locs1 g1 g2 g3 g4 g5
          have hy5 : y < 395 := by
            have h7 := (List.getElem?_eq_some_iff.mp hci).1
            rw [qx_mis_len] at h7
            exact h7
          obtain ⟨pre, xr, suf, a3, hsp, ha3, hEa, hpass, hcov, hct, hcl, hdec⟩ := qx_hd_spec hci (hOK.2.2 y hy5) hhd
          obtain ⟨hx, hbb, hr, hmlc, hown, hts, hlocks⟩ := id F
          have hcast : (Cond.castable E E).before args s = true := by
            rw [hEa]
            exact va_Nw.use rfl (hV.2.1 _ (qx_cast_in a3 ha3) rfl)
          refine vx_catch (own := ci.1) (name := E) hown pre xr suf (by rw [htab, hsp]) (fun z hz => ?_) hcov hct (hts _ hcl) hcast g3 g4 g5 ?_
          · rcases hpass z hz with h7 | ⟨h7, nm, h6, h5⟩
            · exact Or.inl h7
            · exact Or.inr ⟨h7, nm, hts _ h6, hV.2.2.2 (E, nm) h5⟩
          · have hgo : ∀ (ls' : Array Slot), lv_has ls' ci.2.2.2.1 ((k2, Value.ref q9) :: (qx_lv ad 0 ls).filter (fun q => !(q.1 == k2) && !(q.1 + 1 == k2 && q.2.category == 2))) → W p l e R s m args below meth c H1 locs1 (c0 + (x + x1)) (s0 + 6 * (x + x1)) Q (F0 m np2 ls' []) := by
              intro ls' h'
              refine ih2.2 p e R s m args below meth c H1 locs1 c0 s0 Q A ls' ci hci F htab hV hK hA hR1 hR2 hR3 hR4 g1 g2 ?_ (by simpa using hlen) hret hthr
              have h8 : lv_has ls' ci.2.2.2.1 (qx_lv (fun _ => q9) 0 [none]) := ⟨h'.1, h'.2.1, fun q hq => nomatch hq⟩
              refine qx_has_of h' fun q hq => ?_
              obtain ⟨k, w9, h1, h2⟩ := (qx_lv_mem _ 0 q).mp hq
              rw [List.getElem?_set] at h1
              by_cases hkk : k2 = k
              · subst hkk
                rw [if_pos rfl] at h1
                split at h1 <;> simp at h1
              · rw [if_neg hkk] at h1
                refine List.mem_cons_of_mem _ (List.mem_filter.mpr ⟨(qx_lv_mem ls 0 q).mpr ⟨k, w9, h1, h2⟩, ?_⟩)
                rw [h2]
                simp only [Nat.zero_add, qx_cat]
                have h4 : (k == k2) = false := by simpa using fun e => hkk e.symm
                rw [h4]
                by_cases h5 : k + 1 = k2
                · subst h5
                  have hc9 := hk3.1
                  unfold qx_c1 at hc9
                  simp only [h1] at hc9
                  have h6 : w9.category = 1 := by simpa using hc9
                  simp [h6]
                · simp [h5]
            rcases hdec with ⟨n2, hd2, rfl, rfl⟩ | ⟨hd2, rfl⟩
            · exact lv_astore_n hx hbb hd2 rfl hl (by rw [← hlen]; exact hk3.2) rfl hgo
            · exact lv_astore hx hbb hd2 hl (by rw [← hlen]; exact hk3.2) rfl hgo
        · cases h
end QXJ
