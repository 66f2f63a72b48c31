/-! From the law's entry through the constructors to its loop. -/
def qx_M0 : qxM := (fun i k => if i = 40 ∧ k = 4 then 1 else if (i = 20 ∧ k = 4) ∨ (i = 400 ∧ k = 11) then -1 else 0, fun _ => 0, fun _ => 0)
def qx_ix (i : Nat) : Nat := if i = 2 then 181 else if i = 3 then 182 else if i = 10 then 0 else if 20 ≤ i ∧ i ≤ 24 then i - 19 else if i = 30 then 6 else if i = 31 then 7 else if 40 ≤ i ∧ i ≤ 43 then i - 32 else if i = 50 then 38 else if i = 51 then 39
  else if 100 ≤ i ∧ i < 140 then 12 + 13 * ((i - 100) / 20) + i % 20 else if 140 ≤ i ∧ i < 340 then 40 + 13 * ((i - 140) / 20) + i % 20 else if 400 ≤ i ∧ i ≤ 410 then i - 230 else 500
def qx_ad (b : Nat) (tad ads : Nat → Nat) (i : Nat) : Nat := if i = 1 then b else if 500 ≤ i then tad (i - 500) else ads (qx_ix i)
/-- the constructors' cells are the law's -/
def qx_nchk (cs : qxN) : Bool := qx_shL.all fun q => decide (q.1 ≠ 1 ∧ q.1 < 500) && (match cs[qx_ix q.1]?, q.2 with
  | some (.inl o), .inl ci => decide (o.1 = ci) && (decide (o.2.length = qx_nf ci) && (List.range (qx_nf ci)).all (fun k => match qx_fo ci k with
    | none => decide (o.2[k]? = some (.int (qx_M0.1 q.1 k)))
    | some f => decide (q.1 + f ≠ 1 ∧ q.1 + f < 500) && decide (o.2[k]? = some (.ref (qx_ix (q.1 + f))))))
  | some (.inr t), .inr u => decide (t.1 = u.1) && (decide (t.2.1 = u.2) && (decide (u.1 < 6) && (if u.1 = 3 then (List.range u.2).all (fun j => decide (qx_ar q.1 j ≠ 1 ∧ qx_ar q.1 j < 500) && decide (t.2.2[j]? = some (qx_ix (qx_ar q.1 j)))) else decide (q.1 ≠ 40 ∧ q.1 ≠ 20 ∧ q.1 ≠ 400))))
  | _, _ => false)
def qx_n0r : Nat × qxL × qxN := qx_n0.getD (0, [], [])
theorem qx_n0_chk : (match qx_n0 with
    | some r => qx_nchk r.2.2 && (decide (qx_nsl r.2.2 ≤ 100000) && decide ((qx_shL.map fun q => qx_ix q.1).Nodup))
    | none => false) = true := by decide +kernel
theorem qx_ad_ix {b : Nat} {tad ads : Nat → Nat} {i : Nat} (h : i ≠ 1 ∧ i < 500) : qx_ad b tad ads i = ads (qx_ix i) := by
  unfold qx_ad
  rw [if_neg h.1, if_neg (by omega)]
theorem qx_arrV_congr {cI : ClassId} {N : Nat} {f g : Nat → Value} (h : ∀ j, j < N → f j = g j) : arrV cI N f = arrV cI N g := by
  unfold arrV
  congr 1
  apply Array.ext
  · simp
  · intro j h1 h2
    simp only [Array.getElem_ofFn]
    exact h j (by simpa using h1)
theorem qx_cells {D : va_G} {cy : Nat → ClassId} {A : Nat → Prop} {b : Nat} {tad ads : Nat → Nat} {cs : qxN} {H : Heap} (hc : qx_nchk cs = true) (hnd : (qx_shL.map fun q => qx_ix q.1).Nodup) (hP : va_P D vwCl (qx_nw cy ads cs) H) (hD : va_D A (qx_nw cy ads cs)) :
    qx_W D (qx_ad b tad ads) cy A qx_M0 H := by
  have key : ∀ i sp, (i, sp) ∈ qx_shL → (i ≠ 1 ∧ i < 500) ∧ ∃ e, cs[qx_ix i]? = some e := by
    intro i sp hm
    have h1 := List.all_eq_true.mp hc _ hm
    simp only [Bool.and_eq_true, decide_eq_true_eq] at h1
    refine ⟨h1.1, ?_⟩
    cases he : cs[qx_ix i]? with
    | none => rw [he] at h1; cases h1.2
    | some e => exact ⟨e, rfl⟩
  refine ⟨?_, ?_, ?_⟩
  · intro k q hk
    unfold qx_ws at hk
    rw [List.getElem?_map] at hk
    cases hz : qx_shL[k]? with
    | none => rw [hz] at hk; cases hk
    | some z =>
    rw [hz] at hk
    cases hk
    obtain ⟨i, sp⟩ := z
    have hm := List.mem_of_getElem? hz
    obtain ⟨h0, e, he⟩ := key i sp hm
    have h1 := List.all_eq_true.mp hc _ hm
    simp only [Bool.and_eq_true, decide_eq_true_eq] at h1
    have h2 := h1.2
    rw [he] at h2
    have hat := hP (qx_ix i) _ (qx_nw_at (cy := cy) (ads := ads) he)
    dsimp only
    rw [qx_ad_ix h0]
    cases e with
    | inl o =>
      cases sp with
      | inr u => cases h2
      | inl ci =>
        simp only [Bool.and_eq_true, decide_eq_true_eq] at h2
        obtain ⟨hci, hlen, hall⟩ := h2
        have e1 : qx_cell (qx_ad b tad ads) cy qx_M0 i (.inl ci) = qx_ne cy ads (.inl o) := by
          obtain ⟨o1, o2⟩ := o
          obtain rfl : o1 = ci := hci
          show (Sum.inr (o1, (List.range (qx_nf o1)).map (qx_fv (qx_ad b tad ads) qx_M0 i o1)) : va_E) = Sum.inr (o1, o2.map (qx_rv ads))
          congr 2
          apply List.ext_getElem?
          intro z
          rw [List.getElem?_map, List.getElem?_map]
          by_cases hz : z < qx_nf o1
          · rw [List.getElem?_range hz]
            have h3 := List.all_eq_true.mp hall z (List.mem_range.mpr hz)
            cases hfo : qx_fo o1 z with
            | none =>
              rw [hfo] at h3
              dsimp only at h3
              rw [of_decide_eq_true h3]
              show some (qx_fv _ _ _ _ _) = some (Value.int _)
              unfold qx_fv
              rw [hfo]
            | some f =>
              rw [hfo] at h3
              simp only [Bool.and_eq_true, decide_eq_true_eq] at h3
              rw [h3.2]
              show some (qx_fv _ _ _ _ _) = some (Value.ref _)
              unfold qx_fv
              rw [hfo]
              dsimp only
              rw [qx_ad_ix h3.1]
          · rw [List.getElem?_eq_none (by rw [List.length_range]; omega), List.getElem?_eq_none (by dsimp only at hlen; omega)]
            rfl
        rw [e1]
        exact hat
    | inr t =>
      cases sp with
      | inl ci => cases h2
      | inr u =>
        simp only [Bool.and_eq_true, decide_eq_true_eq] at h2
        obtain ⟨h3, h4, h5, h6⟩ := h2
        obtain ⟨t1, tn, vs⟩ := t
        obtain ⟨u1, un⟩ := u
        obtain rfl : t1 = u1 := h3
        obtain rfl : tn = un := h4
        show H[ads (qx_ix i)]? = some (vp_cell _ _)
        have hat2 : H[ads (qx_ix i)]? = some (vp_cell (cy t1) (tn, _)) := hat
        rw [hat2]
        congr 1
        dsimp only at h5 h6
        have hM : (¬ t1 = 3) → qx_M0.1 i = fun _ => 0 := by
          intro h
          rw [if_neg h] at h6
          have h7 := of_decide_eq_true h6
          funext k
          unfold qx_M0
          dsimp only
          rw [if_neg (by omega), if_neg (by omega)]
        match t1, h5 with
        | 0, _ =>
          show vp_cell (cy 0) (tn, .inl (fun _ => 0)) = vp_cell (cy 0) (tn, .inl (qx_M0.1 i))
          rw [hM (by omega)]
        | 1, _ =>
          show vp_cell (cy 1) (tn, .inl (fun _ => 0)) = vp_cell (cy 1) (tn, .inl (qx_M0.1 i))
          rw [hM (by omega)]
        | 2, _ =>
          show vp_cell (cy 2) (tn, .inl (fun _ => 0)) = vp_cell (cy 2) (tn, .inl (qx_M0.1 i))
          rw [hM (by omega)]
        | 3, _ =>
          rw [if_pos rfl] at h6
          show vp_cell (cy 3) (tn, .inr (.inr (.inr (.inr (fun j => (vs[j]?).map ads))))) = vp_cell (cy 3) (tn, .inr (.inr (.inr (.inr (fun j => some (qx_ad b tad ads (qx_ar i j)))))))
          rw [vp_cell_q, vp_cell_q]
          apply qx_arrV_congr
          intro j hj
          have h7 := List.all_eq_true.mp h6 j (List.mem_range.mpr hj)
          simp only [Bool.and_eq_true, decide_eq_true_eq] at h7
          rw [h7.2]
          show va_rf (some _) = va_rf (some (qx_ad b tad ads (qx_ar i j)))
          rw [qx_ad_ix h7.1]
        | 4, _ => rfl
        | 5, _ => rfl
  · intro k k' q q' hk hk' hqq
    unfold qx_ws at hk hk'
    rw [List.getElem?_map] at hk hk'
    cases hz : qx_shL[k]? with
    | none => rw [hz] at hk; cases hk
    | some z =>
    cases hz' : qx_shL[k']? with
    | none => rw [hz'] at hk'; cases hk'
    | some z' =>
    rw [hz] at hk
    rw [hz'] at hk'
    cases hk
    cases hk'
    obtain ⟨h0, e, he⟩ := key z.1 z.2 (List.mem_of_getElem? hz)
    obtain ⟨h0', e', he'⟩ := key z'.1 z'.2 (List.mem_of_getElem? hz')
    dsimp only at hqq
    rw [qx_ad_ix h0, qx_ad_ix h0'] at hqq
    have h1 := hD.1 _ _ _ _ (qx_nw_at (cy := cy) (ads := ads) he) (qx_nw_at (cy := cy) (ads := ads) he') hqq
    have hkl : k < (qx_shL.map fun q => qx_ix q.1).length := by rw [List.length_map]; exact (List.getElem?_eq_some_iff.mp hz).1
    refine (List.getElem?_inj hkl hnd).mp ?_
    rw [List.getElem?_map, List.getElem?_map, hz, hz']
    exact congrArg some h1
  · intro k q hk
    unfold qx_ws at hk
    rw [List.getElem?_map] at hk
    cases hz : qx_shL[k]? with
    | none => rw [hz] at hk; cases hk
    | some z =>
    rw [hz] at hk
    cases hk
    obtain ⟨h0, e, he⟩ := key z.1 z.2 (List.mem_of_getElem? hz)
    dsimp only
    rw [qx_ad_ix h0]
    exact hD.2 _ _ (qx_nw_at (cy := cy) (ads := ads) he)
/-- what is left: the small machine's run of the law's loop -/
def qx_goal (L : Nat) (xs : Nat → Int32) : Prop := ∃ (M1 : qxM) (x : Nat), x ≤ 100000 ∧ Rs L xs 200 394 28 [some (.ref 1), some (.ref 10), some (.ref 400), some (.ref 2), some (.ref 3), some (.int 0), none, none, none] [] qx_M0 0 = some (.inl (some (.int 1)), M1, x)
theorem qx_start {p : Program} {e : Env} {s : State} {m : MethodId} {below : List Frame} {meth : Method} {c : Code} {l : Launch} {b L : Nat} {xs : Nat → Int32} {Z : State → Prop} (hflags : l.flags = flags0) (hx : p.tables.exec = Jvm.exec) (hb : c.code = code) (hr : meth.sig.returnType = ret) (hml : c.maxLocals = 9) (hown : s.vm.findClass RL = some m.cls)
    (hts : ∀ w ∈ lw_tbl, w.before #[Value.ref b] s = true) (hX : va_X b L xs s s.heap) (hbl : b < s.heap.size) (hlocks : meth.locks = false) (hgv : (Jvm.Cond.and given_1 narrow_1).before #[Value.ref b] s = true) (htab : c.exceptionTable.toList = tableOf []) (hOK : qx_OK) (hpure : qx_goal L xs)
    (hret : ∀ (pc : Nat) (H : Heap) (lsA : Array Slot), decode code pc = .ok (.ireturn, 1) → W p l e room_1 s m #[Value.ref b] below meth c H [] 601024 7293034 Z (F0 m pc lsA [.int 1])) :
    W p l e room_1 s m #[Value.ref b] below meth c s.heap [] 0 0 Z (entryFrame m ([Value.ref b] : List Value).toArray 9) := by
  have hst : l.stackTraces = false := by
    unfold Launch.stackTraces
    rw [hflags]
    decide +kernel
  obtain ⟨D, cy, tad, hK, hN, hAO, hR, hNc, hZ1, hZ2, hT, hZ3⟩ := qx_begin hts hgv
  have hA : ∀ q, s.heap.size ≤ q → (fun q => s.heap.size ≤ q) q := fun q h => h
  have htg : ∀ w ∈ qx_gts, w.before #[Value.ref b] s = true := fun w hw => hts w (List.mem_filter.mp hw).1
  have F : qx_F p s m #[Value.ref b] meth c RL code 9 ret := ⟨hx, hb, hr, hml, hown, htg, hlocks⟩
  have hchk := qx_n0_chk
  have hsome := qx_n0_some
  cases hn0 : qx_n0 with
  | none => rw [hn0] at hchk; cases hchk
  | some r =>
  rw [hn0] at hchk hsome
  simp only [Bool.and_eq_true, decide_eq_true_eq] at hchk
  obtain ⟨hc1, hc2, hc3⟩ := hchk
  have hs9 : (r.1, r.2.1, r.2.2.length) = (28, [some (.ref 999), some (.ref 0), some (.ref 170), some (.ref 181), some (.ref 182), some (.int 0), none, none, none], 183) := Option.some.inj hsome
  obtain ⟨r1, r2, r3⟩ := r
  simp only [Prod.mk.injEq] at hs9
  obtain ⟨rfl, rfl, hlen⟩ := hs9
  have hmot := qx_nsound (l := l) (D := D) (cy := cy) _ _ _ _ _ _ _ _ hn0
  have hl := lv_entry ([Value.ref b]) (n := 9) (Nat.le_of_ble_eq_true rfl)
  rw [lg_entry_eq]
  generalize (lg_sl ([Value.ref b]) ++ List.replicate (9 - (lg_sl ([Value.ref b])).length) Slot.unset).toArray = lsA at hl ⊢
  have e0 : qx_nsl ([] : qxN) = 0 := rfl
  dsimp only at hc1 hc2 hlen
  have hW0 : qx_nW D cy (fun q => s.heap.size ≤ q) (fun _ => b) [] s.heap := by
    refine And.intro ?_ (And.intro ?_ (And.intro ?_ ?_))
    · intro e h
      exact absurd h List.not_mem_nil
    · intro k q h
      exact absurd (List.mem_of_getElem? (l := ([] : va_W)) h) List.not_mem_nil
    · intro i j p q h
      exact absurd (List.mem_of_getElem? (l := ([] : va_W)) h) List.not_mem_nil
    · intro k q h
      exact absurd (List.mem_of_getElem? (l := ([] : va_W)) h) List.not_mem_nil
  refine hmot.2.2.2 p e room_1 s m #[Value.ref b] below meth c s.heap [] 0 0 Z (fun q => s.heap.size ≤ q) lsA (fun _ => b) (RL, yL_law, cL_law, 9) ret rfl F (fun h => absurd h (by decide)) ⟨hK, hAO, hN⟩ hA (by decide) (by decide) (by dsimp only; rw [hlen]; decide) (by dsimp only; rw [e0]; show 0 + (qx_nsl r3 - 0) ≤ 7293034; omega)
    hW0 va_S.rf hl rfl ?_
  intro H1 locs1 lsA1 ads hag hW hS hl1 hn1
  have hag9 : ads 999 = b := hag 999 (Or.inr rfl)
  have hW2 := qx_cells (b := b) (tad := tad) hc1 hc3 hW.2.1 hW.2.2
  obtain ⟨M1, x, hx9, hrun⟩ := hpure
  have had1 : qx_ad b tad ads 1 = b := by unfold qx_ad; rw [if_pos rfl]
  have hadt : ∀ k, qx_ad b tad ads (500 + k) = tad k := by
    intro k
    unfold qx_ad
    rw [if_neg (by omega), if_pos (by omega), Nat.add_sub_cancel_left]
  have hV : qx_V D (qx_ad b tad ads) cy s := ⟨hK, hN, fun k t ht => by rw [hadt]; exact hR k t ht, hNc⟩
  have hKK : qx_K L xs (qx_ad b tad ads) (fun q => s.heap.size ≤ q) s s.heap := by
    refine ⟨by rw [had1]; exact hX, by rw [had1]; exact hbl, by rw [had1]; exact Nat.not_le.mpr hbl, hZ1, hZ2, ?_, hZ3⟩
    intro k t ht hk
    rw [hadt]
    exact hT k t ht hk
  have hs := qx_sound (l := l) (L := L) (xs := xs) (D := D) (ad := qx_ad b tad ads) (cy := cy) hst qx_B_ok hOK _ _ _ _ _ _ _ _ hrun
  have hci : ∃ ci, qx_mis[394]? = some ci ∧ ci.1 = RL ∧ ci.2.2.1 = code ∧ ci.2.2.2.1 = 9 ∧ ci.2.2.2.2.1 = some .boolean ∧ ci.2.2.2.2.2.2.2.1 = [] := ⟨_, rfl, rfl, rfl, rfl, rfl, rfl⟩
  obtain ⟨ci, hci, g1, g2, g3, g4, g5⟩ := hci
  have hlv : lv_has lsA1 ci.2.2.2.1 (qx_lv (qx_ad b tad ads) 0 [some (.ref 1), some (.ref 10), some (.ref 400), some (.ref 2), some (.ref 3), some (.int 0), none, none, none]) := by
    rw [g3]
    have e1 : qx_lv (qx_ad b tad ads) 0 [some (.ref 1), some (.ref 10), some (.ref 400), some (.ref 2), some (.ref 3), some (.int 0), none, none, none] = qx_lv ads 0 [some (.ref 999), some (.ref 0), some (.ref 170), some (.ref 181), some (.ref 182), some (.int 0), none, none, none] := by
      show [(0, Value.ref (qx_ad b tad ads 1)), (1, Value.ref (qx_ad b tad ads 10)), (2, Value.ref (qx_ad b tad ads 400)), (3, Value.ref (qx_ad b tad ads 2)), (4, Value.ref (qx_ad b tad ads 3)), (5, Value.int 0)] = [(0, Value.ref (ads 999)), (1, Value.ref (ads 0)), (2, Value.ref (ads 170)), (3, Value.ref (ads 181)), (4, Value.ref (ads 182)), (5, Value.int 0)]
      rw [had1, hag9]
      rfl
    rw [e1]
    exact hl1
  have hcell : 0 + (r3.length - ([] : qxN).length) = 183 := by rw [hlen]; rfl
  refine W.cs (show 0 + (r3.length - ([] : qxN).length) = 183 + 0 from hcell) (show 0 + (qx_nsl r3 - qx_nsl []) = qx_nsl r3 + 6 * 0 by rw [e0]; omega) ?_
  refine hs.2 p e room_1 s m #[Value.ref b] below meth c H1 locs1 183 (qx_nsl r3) Z (fun q => s.heap.size ≤ q) lsA1 ci hci (by rw [g1, g2, g3, g4]; exact F) (by rw [g5]; exact htab) hV hKK hA (by decide) (by decide) (by show 183 + x ≤ 601024; omega) (by show qx_nsl r3 + 6 * x ≤ 7293034; omega) hW2 hS hlv (by rw [g3]; rfl) ?_ ?_
  · intro v hv H2 locs2 lsA2 pc1 ins hd hrok hW3 hS3
    have hv : (some (Value.int 1) : Option Value) = v := Sum.inl.inj hv
    subst hv
    have hins : ins = .ireturn := by
      rcases hrok with ⟨x, h1, h2, -⟩ | ⟨x, h1, -⟩ | ⟨x, h1, -⟩ | ⟨x, h1, -⟩ | ⟨i, n, h1, -⟩ | ⟨h1, -⟩
      · exact h2
      all_goals cases h1
    subst hins
    rw [g2] at hd
    refine va_forget (fun q hq => hS3.2.2 q hq) ?_
    refine W.widen (k := 601024) (n := 7293034) (by show 183 + x ≤ 601024; omega) (by show qx_nsl r3 + 6 * x ≤ 7293034; omega) ?_
    exact hret pc1 H2 lsA2 hd
  · intro E hE
    cases hE
