/-! The runs of the small machine, unfolded a step at a time. -/
/-- what a cell is: 0..5 a row of that kind, 10 + c an object of class c; and a row's length -/
def qx_kd (i : Nat) : Nat := match qx_sh i with
  | some (.inr (t, _)) => t
  | some (.inl c) => 10 + c
  | none => 99
def qx_ln (i : Nat) : Nat := match qx_sh i with
  | some (.inr (_, n)) => n
  | _ => 0
def qx_ib (j : Int32) (n : Nat) : Bool := decide (¬ (j < 0 ∨ n ≤ j.toNatClampNeg))
theorem qx_ib_of {i n : Nat} (h : i < n) (hn : n < 2 ^ 31) : qx_ib (nI i) n = true := by
  unfold qx_ib
  exact decide_eq_true (vp_in_nI h hn)
theorem qx_ib_not {j : Int32} {n : Nat} (h : qx_ib j n = true) : ¬ (j < 0 ∨ n ≤ j.toNatClampNeg) := of_decide_eq_true h
theorem qx_shlt : (∀ i c, (i, Sum.inl c) ∈ qx_shL → c < 9) ∧ ∀ i t n, (i, Sum.inr (t, n)) ∈ qx_shL → t < 6 := by
  have h : (qx_shL.all fun q => match q.2 with
    | .inl c => decide (c < 9)
    | .inr t => decide (t.1 < 6)) = true := by decide +kernel
  exact ⟨fun i c hm => by simpa using List.all_eq_true.mp h _ hm, fun i t n hm => by simpa using List.all_eq_true.mp h _ hm⟩
theorem qx_kd_row {i k : Nat} (hk : k < 6) (h : qx_kd i = k) : qx_sh i = some (.inr (k, qx_ln i)) := by
  unfold qx_kd at h
  unfold qx_ln
  cases hs : qx_sh i with
  | none => rw [hs] at h; dsimp only at h; omega
  | some v =>
    rw [hs] at h
    cases v with
    | inl c => dsimp only at h; omega
    | inr t =>
      obtain ⟨t, n⟩ := t
      dsimp only at h ⊢
      rw [h]
theorem qx_kd_obj {i k : Nat} (hk : k < 9) (h : qx_kd i = 10 + k) : qx_sh i = some (.inl k) := by
  unfold qx_kd at h
  cases hs : qx_sh i with
  | none => rw [hs] at h; dsimp only at h; omega
  | some v =>
    rw [hs] at h
    cases v with
    | inl c => dsimp only at h; rw [show c = k by omega]
    | inr t =>
      obtain ⟨t, n⟩ := t
      obtain ⟨q, hq⟩ := qx_sh_at hs
      have h1 := qx_shlt.2 i t n (List.mem_of_getElem? hq)
      dsimp only at h
      omega
section QST
variable {L : Nat} {xs : Nat → Int32} {d y pc x np a b w : Nat} {ins : Instr} {ls : qxL} {st : List Value} {M : qxM}
theorem Rs_next {e : qxE} {p2 : Nat} {l2 : qxL} {s2 : List Value} {M2 : qxM} (hc : qx_code y pc = some e) (ha : qx_act L xs (qx_rt y) e ls st M = some (.inl (p2, l2, s2, M2))) : Rs L xs d y pc ls st M x = Rs L xs d y p2 l2 s2 M2 x := by
  rw [Rs, hc]
  dsimp only
  rw [ha]
theorem Rs_ite {e : qxE} {cnd : Prop} [Decidable cnd] {p2 p3 : Nat} {l2 l3 : qxL} {s2 s3 : List Value} {M2 M3 : qxM} (hc : qx_code y pc = some e) (ha : qx_act L xs (qx_rt y) e ls st M = if cnd then some (.inl (p2, l2, s2, M2)) else some (.inl (p3, l3, s3, M3))) : Rs L xs d y pc ls st M x = if cnd then Rs L xs d y p2 l2 s2 M2 x else Rs L xs d y p3 l3 s3 M3 x := by
  by_cases h : cnd
  · rw [if_pos h] at ha ⊢
    exact Rs_next hc ha
  · rw [if_neg h] at ha ⊢
    exact Rs_next hc ha
theorem Rs_when {e : qxE} {cnd : Prop} [Decidable cnd] {p2 : Nat} {l2 : qxL} {s2 : List Value} {M2 : qxM} (h : cnd) (hc : qx_code y pc = some e) (ha : qx_act L xs (qx_rt y) e ls st M = if cnd then some (.inl (p2, l2, s2, M2)) else none) : Rs L xs d y pc ls st M x = Rs L xs d y p2 l2 s2 M2 x := by
  rw [if_pos h] at ha
  exact Rs_next hc ha
theorem Rs_unless {e : qxE} {cnd : Prop} [Decidable cnd] {p2 : Nat} {l2 : qxL} {s2 : List Value} {M2 : qxM} (h : ¬ cnd) (hc : qx_code y pc = some e) (ha : qx_act L xs (qx_rt y) e ls st M = if cnd then none else some (.inl (p2, l2, s2, M2))) : Rs L xs d y pc ls st M x = Rs L xs d y p2 l2 s2 M2 x := by
  rw [if_neg h] at ha
  exact Rs_next hc ha
theorem Rs_ret {e : qxE} {v : Option Value} (hc : qx_code y pc = some e) (ha : qx_act L xs (qx_rt y) e ls st M = some (.inr (.inl v))) : Rs L xs d y pc ls st M x = some (.inl v, M, x) := by
  rw [Rs, hc]
  dsimp only
  rw [ha]
theorem Rs_retw {e : qxE} {cnd : Prop} [Decidable cnd] {v : Option Value} (h : cnd) (hc : qx_code y pc = some e) (ha : qx_act L xs (qx_rt y) e ls st M = if cnd then some (.inr (.inl v)) else none) : Rs L xs d y pc ls st M x = some (.inl v, M, x) := by
  rw [if_pos h] at ha
  exact Rs_ret hc ha
theorem Rs_thr {e : qxE} {E : String} (hh : qx_hh y = []) (hc : qx_code y pc = some e) (ha : qx_act L xs (qx_rt y) e ls st M = some (.inr (.inr (.inl E)))) : Rs L xs d y pc ls st M x = some (.inr E, M, x + 1) := by
  rw [Rs, hc]
  dsimp only
  rw [ha]
  dsimp only
  rw [if_pos hh]
/-- behind a call -/
def qx_kn (L : Nat) (xs : Nat → Int32) (d y pc np y1 : Nat) (ls : qxL) (st : List Value) (x : Nat) (r : qxO) : Option qxO :=
  match r.1 with
  | .inl v => Rs L xs d y np ls (v.toList ++ st) r.2.1 (x + r.2.2)
  | .inr E => if qx_ss y1 = true then none else match qx_hd y pc E with
    | some h => if qx_c1 ls h.2 = true ∧ h.2 < ls.length then Rs L xs d y h.1 (ls.set h.2 none) [] r.2.1 (x + r.2.2) else none
    | none => if qx_hh y = [] then some (.inr E, r.2.1, x + r.2.2) else none
theorem Rs_call {e : qxE} {y1 : Nat} {as rest : List Value} (hc : qx_code y pc = some e) (ha : qx_act L xs (qx_rt y) e ls st M = some (.inr (.inr (.inr (y1, as, rest))))) (hg : qx_args y1 as = true) :
    Rs L xs (d + 1) y pc ls st M x = (Rs L xs d y1 0 (qx_en (qx_ml y1) as) [] M 0).bind (qx_kn L xs (d + 1) y pc e.2.2.1 y1 ls rest x) := by
  rw [Rs, hc]
  dsimp only
  rw [ha]
  dsimp only
  rw [if_pos hg]
  rfl
theorem qx_kn_v {d1 y1 : Nat} {v : Value} {M1 : qxM} {x1 : Nat} : qx_kn L xs d1 y pc np y1 ls st x (.inl (some v), M1, x1) = Rs L xs d1 y np ls (v :: st) M1 (x + x1) := rfl
theorem qx_kn_n {d1 y1 : Nat} {M1 : qxM} {x1 : Nat} : qx_kn L xs d1 y pc np y1 ls st x (.inl none, M1, x1) = Rs L xs d1 y np ls st M1 (x + x1) := rfl
theorem qx_kn_t {d1 y1 : Nat} {E : String} {M1 : qxM} {x1 : Nat} (h1 : qx_ss y1 = false) (h2 : qx_hs y = []) (h3 : qx_hh y = []) : qx_kn L xs d1 y pc np y1 ls st x (.inr E, M1, x1) = some (.inr E, M1, x + x1) := by
  unfold qx_kn
  dsimp only
  rw [h1, if_neg (by decide)]
  unfold qx_hd
  rw [h2, h3]
  simp
end QST
