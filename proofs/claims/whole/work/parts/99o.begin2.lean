/-! THE START: what the cells hold -/
def q0_ar (u : Nat) (x : (Nat → Int32) ⊕ (Nat → Int64) ⊕ (Nat → UInt32) ⊕ (Nat → UInt64) ⊕ (Nat → Option Nat)) : Bool := match u, x with
  | 0, .inl _ => true
  | 1, .inr (.inl _) => true
  | 2, .inl _ => true
  | _ + 3, .inr (.inr (.inr (.inr _))) => true
  | _, _ => false
def q0_fv (v : Value) (q : Nat × Nat) : Bool := match q.1, v with
  | 0, .int _ => true
  | 1, .long _ => true
  | 2, .ref w => decide (w = q.2)
  | _ + 3, .null => true
  | _ + 3, .ref _ => true
  | _, _ => false
def q0_ck (c : qa_C) (sh : qb_S) : Bool := match c, sh with
  | .inl (t, n, x), .inl (u, m) => decide (t = u) && (decide (n = m) && q0_ar u x)
  | .inr (ci, fs), .inr (cj, fl) => decide (ci = cj) && (decide (fs.length = fl.length) && (List.range fl.length).all (fun k => match fs[k]? with | some v => q0_fv v (fl.getD k (0, 0)) | none => false))
  | _, _ => false
def q0_si (c : qa_C) (k : Nat) : Int32 := match c with
  | .inl (_, _, .inl f) => f k
  | .inr (_, fs) => (match fs[k]? with | some (.int v) => v | _ => 0)
  | _ => 0
def q0_sl (c : qa_C) (k : Nat) : Int64 := match c with
  | .inl (_, _, .inr (.inl f)) => f k
  | .inr (_, fs) => (match fs[k]? with | some (.long v) => v | _ => 0)
  | _ => 0
def q0_sp (c : qa_C) (k : Nat) : Option Nat := match c with
  | .inl (_, _, .inr (.inr (.inr (.inr f)))) => f k
  | .inr (_, fs) => (match fs[k]? with | some (.ref v) => some v | _ => none)
  | _ => none
def q0_s (h : Nat → qa_C) : qb_M := (fun a k => q0_si (h a) k, fun a k => q0_sl (h a) k, fun a k => q0_sp (h a) k)
theorem q0_ar_ok {h : Nat → qa_C} {a u n : Nat} {x : (Nat → Int32) ⊕ (Nat → Int64) ⊕ (Nat → UInt32) ⊕ (Nat → UInt64) ⊕ (Nat → Option Nat)} (hh : h a = .inl (u, n, x)) (hc : q0_ar u x = true) : x = qb_ar (q0_s h) a u := by
  have e1 : (q0_s h).1 a = fun k => q0_si (.inl (u, n, x)) k := funext fun k => by show q0_si (h a) k = _; rw [hh]
  have e2 : (q0_s h).2.1 a = fun k => q0_sl (.inl (u, n, x)) k := funext fun k => by show q0_sl (h a) k = _; rw [hh]
  have e3 : (q0_s h).2.2 a = fun k => q0_sp (.inl (u, n, x)) k := funext fun k => by show q0_sp (h a) k = _; rw [hh]
  unfold q0_ar at hc
  split at hc
  · show _ = Sum.inl ((q0_s h).1 a)
    rw [e1]; rfl
  · show _ = Sum.inr (Sum.inl ((q0_s h).2.1 a))
    rw [e2]; rfl
  · show _ = Sum.inl ((q0_s h).1 a)
    rw [e1]; rfl
  · show _ = Sum.inr (Sum.inr (Sum.inr (Sum.inr ((q0_s h).2.2 a))))
    rw [e3]; rfl
  · cases hc
theorem q0_fv_ok {h : Nat → qa_C} {a ci k : Nat} {fs : List Value} {v : Value} {q : Nat × Nat} (hh : h a = .inr (ci, fs)) (hv : fs[k]? = some v) (hc : q0_fv v q = true) : v = qb_fv (q0_s h) a k q := by
  have e1 : (q0_s h).1 a k = q0_si (.inr (ci, fs)) k := by show q0_si (h a) k = _; rw [hh]
  have e2 : (q0_s h).2.1 a k = q0_sl (.inr (ci, fs)) k := by show q0_sl (h a) k = _; rw [hh]
  have e3 : (q0_s h).2.2 a k = q0_sp (.inr (ci, fs)) k := by show q0_sp (h a) k = _; rw [hh]
  obtain ⟨q1, q2⟩ := q
  unfold q0_fv at hc
  dsimp only at hc
  split at hc
  · show _ = Value.int ((q0_s h).1 a k)
    rw [e1]; unfold q0_si; dsimp only; rw [hv]
  · show _ = Value.long ((q0_s h).2.1 a k)
    rw [e2]; unfold q0_sl; dsimp only; rw [hv]
  · show _ = Value.ref q2
    rw [of_decide_eq_true hc]
  · show _ = qa_rv ((q0_s h).2.2 a k)
    rw [e3]; unfold q0_sp; dsimp only; rw [hv]; rfl
  · show _ = qa_rv ((q0_s h).2.2 a k)
    rw [e3]; unfold q0_sp; dsimp only; rw [hv]; rfl
  · cases hc
theorem q0_cell {h : Nat → qa_C} {a : Nat} (hc : q0_ck (h a) (qb_sh a) = true) : h a = qb_hp (q0_s h) a := by
  unfold qb_hp
  cases hs : qb_sh a with
  | inl p =>
    obtain ⟨t, n⟩ := p
    rw [hs] at hc
    cases hh : h a with
    | inr q => rw [hh] at hc; cases hc
    | inl q =>
      obtain ⟨u, m, x⟩ := q
      rw [hh] at hc
      have hc : (decide (u = t) && (decide (m = n) && q0_ar t x)) = true := hc
      simp only [Bool.and_eq_true, decide_eq_true_eq] at hc
      obtain ⟨rfl, rfl, hx⟩ := hc
      show Sum.inl (u, m, x) = Sum.inl (u, m, qb_ar (q0_s h) a u)
      rw [← q0_ar_ok hh hx]
  | inr p =>
    obtain ⟨ci, fl⟩ := p
    rw [hs] at hc
    cases hh : h a with
    | inl q => rw [hh] at hc; cases hc
    | inr q =>
      obtain ⟨cj, fs⟩ := q
      rw [hh] at hc
      have hc : (decide (cj = ci) && (decide (fs.length = fl.length) && (List.range fl.length).all (fun k => match fs[k]? with | some v => q0_fv v (fl.getD k (0, 0)) | none => false))) = true := hc
      simp only [Bool.and_eq_true, decide_eq_true_eq] at hc
      obtain ⟨rfl, hl, ha⟩ := hc
      show Sum.inr (cj, fs) = Sum.inr (cj, qb_fl (q0_s h) a fl)
      have e : fs = qb_fl (q0_s h) a fl := by
        apply List.ext_getElem?
        intro k
        by_cases hk : k < fl.length
        · have h1 := List.all_eq_true.mp ha k (List.mem_range.mpr hk)
          have hq : fl[k]? = some (fl.getD k (0, 0)) := by rw [List.getD_eq_getElem?_getD, List.getElem?_eq_getElem hk]; rfl
          rw [qb_fl_at hq]
          cases hv : fs[k]? with
          | none => rw [hv] at h1; cases h1
          | some v =>
            rw [hv] at h1
            rw [← q0_fv_ok hh hv h1]
        · rw [List.getElem?_eq_none (by omega), List.getElem?_eq_none (by unfold qb_fl; rw [List.length_map, List.length_range]; omega)]
      rw [← e]
theorem q0_gen {x : Option (Option Value × qa_H)} {n : Nat × Nat × Nat} (h : q0_sm x = (true, n)) : x = some (none, q0_gt x) ∧ (q0_gt x).2 = n := by
  unfold q0_sm at h
  split at h
  · rename_i g
    exact ⟨rfl, congrArg Prod.snd h⟩
  · cases h
theorem qa_fo.nw2 {h : qa_H} {x : qa_C} {g : Nat × Nat} {n : Nat} (hf : qa_fo h) (hn : h.2.1 = n) : qa_fo (qa_up h.1 (64 + n) x, n + 1, g) := by
  subst hn
  exact hf.nw
theorem q0_f0 : qa_fo (q0_f, 0, 0, 0) := fun _ _ => rfl
theorem q0_A : qf 6000 100 0 [.ref 64] q0_1 = some (none, q0_2) ∧ q0_2.2 = (128, 128, 4724) := q0_gen q0_ea
theorem q0_B : qf 6000 100 165 [.ref 192] q0_3 = some (none, q0_4) ∧ q0_4.2 = (148, 148, 8655) := q0_gen q0_eb
theorem q0_fo1 : qa_fo q0_1 := q0_f0.nw2 (n := 0) rfl
theorem q0_use {fu d i : Nat} {av : List Value} {h g : qa_H} (e : qf fu d i av h = some (none, g)) : qe d i av h = some (none, g) ∧ (qa_fo h → qa_fo g) := qf_ok fu d i av h (none, g) e
theorem q0_fo2 : qa_fo q0_2 := (q0_use q0_A.1).2 q0_fo1
theorem q0_fo3 : qa_fo q0_3 := by
  have e : q0_2.2.1 = 128 := congrArg Prod.fst q0_A.2
  have hf := q0_fo2
  unfold q0_3
  generalize q0_2 = g at e hf ⊢
  exact hf.nw2 (n := 128) e
theorem q0_fo4 : qa_fo q0_4 := (q0_use q0_B.1).2 q0_fo3
theorem q0_fo5 : ∀ a, a < 64 ∨ 213 ≤ a → q0_5 a = q0_f a := by
  have e : q0_4.2.1 = 148 := congrArg Prod.fst q0_B.2
  have hf := q0_fo4
  unfold q0_5
  generalize q0_4 = g at e hf ⊢
  exact hf.nw2 (n := 148) (g := (149, 8656)) e
theorem qb_sh_lo {a : Nat} (h : a < 64) : qb_sh a = qb_sh 64 := by
  unfold qb_sh
  rw [show a - 64 = 0 by omega]
theorem qb_sh_hi {a : Nat} (h : 213 ≤ a) : qb_sh a = .inr (0, []) := by
  unfold qb_sh
  have hq : (a - 64) / 32 = 4 ∨ 5 ≤ (a - 64) / 32 := by omega
  rcases hq with hq | hq
  · rw [hq]
    have hr : 21 ≤ (a - 64) % 32 := by omega
    show (qb_s4).getD ((a - 64) % 32) _ = _
    rw [List.getD_eq_getElem?_getD, List.getElem?_eq_none (by show 21 ≤ _; exact hr)]
    rfl
  · obtain ⟨j, hj⟩ : ∃ j, (a - 64) / 32 = j + 5 := ⟨(a - 64) / 32 - 5, by omega⟩
    rw [hj]
    rfl
set_option maxRecDepth 100000 in
theorem q0_all : (List.range 149).all (fun j => q0_ck (q0_5 (64 + j)) (qb_sh (64 + j))) = true := by decide +kernel
theorem q0_hp : q0_5 = qb_hp (q0_s q0_5) := funext fun a => q0_cell (by
  by_cases h1 : a < 64
  · rw [q0_fo5 a (Or.inl h1), qb_sh_lo h1]
    unfold q0_f
    rw [if_pos h1]
    decide +kernel
  · by_cases h2 : 213 ≤ a
    · rw [q0_fo5 a (Or.inr h2), qb_sh_hi h2]
      unfold q0_f
      rw [if_neg h1]
      rfl
    · have := List.all_eq_true.mp q0_all (a - 64) (List.mem_range.mpr (by omega))
      rw [show 64 + (a - 64) = a by omega] at this
      exact this)
