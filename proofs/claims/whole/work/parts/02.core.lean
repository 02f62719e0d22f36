/-! THE ABSTRACT MACHINE: values of the kit, addresses of its own (below 64: what stands outside the world; from 64 on: the world's cells in the order of their making), code as a table of steps -/
abbrev qa_C : Type := (Nat × vp_A) ⊕ (Nat × List Value)
abbrev qa_H : Type := (Nat → qa_C) × Nat × Nat × Nat
abbrev qa_O : Type := Nat → List Value → qa_H → Option (Option Value × qa_H)
abbrev qa_F : Type := Nat × List Value × List Value × qa_H
abbrev qa_Op : Type := qa_O → List Value → List Value → qa_H → Option (qa_F ⊕ (Option Value × qa_H))
abbrev qa_Cd : Type := Nat → Option qa_Op
def qa_run (o : qa_O) (cd : qa_Cd) : Nat → qa_F → Option (Option Value × qa_H)
  | 0, _ => none
  | k + 1, x => match cd x.1 with
    | none => none
    | some op => match op o x.2.1 x.2.2.1 x.2.2.2 with
      | none => none
      | some (.inr r) => some r
      | some (.inl y) => qa_run o cd k y
theorem qa_run_mono {o : qa_O} {cd : qa_Cd} : ∀ {k : Nat} {x : qa_F} {r : Option Value × qa_H} (j : Nat), qa_run o cd k x = some r → qa_run o cd (k + j) x = some r
  | 0, x, r, j, h => by cases h
  | k + 1, x, r, j, h => by
    rw [show k + 1 + j = (k + j) + 1 by omega]
    unfold qa_run at h ⊢
    cases hc : cd x.1 with
    | none => rw [hc] at h; cases h
    | some op =>
      rw [hc] at h
      dsimp only at h ⊢
      cases ho : op o x.2.1 x.2.2.1 x.2.2.2 with
      | none => rw [ho] at h; cases h
      | some z =>
        rw [ho] at h
        cases z with
        | inl y => exact qa_run_mono j h
        | inr q => exact h
noncomputable def qa_lm (o : qa_O) (cd : qa_Cd) (x : qa_F) : Option (Option Value × qa_H) := @dite _ (∃ k, (qa_run o cd k x).isSome = true) (Classical.propDecidable _) (fun h => qa_run o cd h.choose x) (fun _ => none)
theorem qa_lm_of {o : qa_O} {cd : qa_Cd} {k : Nat} {x : qa_F} {r : Option Value × qa_H} (h : qa_run o cd k x = some r) : qa_lm o cd x = some r := by
  have hx : ∃ k, (qa_run o cd k x).isSome = true := ⟨k, by rw [h]; rfl⟩
  unfold qa_lm
  rw [dif_pos hx]
  have h1 := hx.choose_spec
  generalize hx.choose = j at h1 ⊢
  cases hj : qa_run o cd j x with
  | none => rw [hj] at h1; cases h1
  | some q =>
    have e1 := qa_run_mono k hj
    have e2 := qa_run_mono j h
    rw [Nat.add_comm] at e2
    rw [← e1, e2]
theorem qa_lm_run {o : qa_O} {cd : qa_Cd} {x : qa_F} {r : Option Value × qa_H} (h : qa_lm o cd x = some r) : ∃ k, qa_run o cd k x = some r := by
  unfold qa_lm at h
  by_cases hx : ∃ k, (qa_run o cd k x).isSome = true
  · rw [dif_pos hx] at h
    exact ⟨_, h⟩
  · rw [dif_neg hx] at h
    cases h
theorem qa_go {o : qa_O} {cd : qa_Cd} {pc : Nat} {L S : List Value} {h : qa_H} {op : qa_Op} {y : qa_F} (hc : cd pc = some op) (ho : op o L S h = some (.inl y)) : qa_lm o cd (pc, L, S, h) = qa_lm o cd y := by
  have hr : ∀ k, qa_run o cd (k + 1) (pc, L, S, h) = qa_run o cd k y := fun k => by
    show (match cd pc with | none => none | some op => match op o L S h with | none => none | some (.inr r) => some r | some (.inl y) => qa_run o cd k y) = _
    rw [hc]
    dsimp only
    rw [ho]
  cases hy : qa_lm o cd y with
  | some r =>
    obtain ⟨k, hk⟩ := qa_lm_run hy
    exact qa_lm_of ((hr k).trans hk)
  | none =>
    cases hx : qa_lm o cd (pc, L, S, h) with
    | none => rfl
    | some r =>
      obtain ⟨k, hk⟩ := qa_lm_run hx
      have h2 := qa_run_mono 1 hk
      rw [hr] at h2
      rw [qa_lm_of h2] at hy
      cases hy
theorem qa_fin {o : qa_O} {cd : qa_Cd} {pc : Nat} {L S : List Value} {h : qa_H} {op : qa_Op} {r : Option Value × qa_H} (hc : cd pc = some op) (ho : op o L S h = some (.inr r)) : qa_lm o cd (pc, L, S, h) = some r := by
  refine qa_lm_of (k := 1) ?_
  show (match cd pc with | none => none | some op => match op o L S h with | none => none | some (.inr r) => some r | some (.inl y) => qa_run o cd 0 y) = _
  rw [hc]
  dsimp only
  rw [ho]
/-! what the abstract values and cells stand for -/
def qa_ca (st : Nat → Nat) (bs k : Nat) : Nat := if k < 64 then st k else bs + (k - 64)
def qa_v (ca : Nat → Nat) : Value → Value
  | .ref a => .ref (ca a)
  | v => v
def qa_x (ca : Nat → Nat) : ((Nat → Int32) ⊕ (Nat → Int64) ⊕ (Nat → UInt32) ⊕ (Nat → UInt64) ⊕ (Nat → Option Nat)) → ((Nat → Int32) ⊕ (Nat → Int64) ⊕ (Nat → UInt32) ⊕ (Nat → UInt64) ⊕ (Nat → Option Nat))
  | .inr (.inr (.inr (.inr g))) => .inr (.inr (.inr (.inr (fun j => (g j).map ca))))
  | .inl f => .inl f
  | .inr (.inl f) => .inr (.inl f)
  | .inr (.inr (.inl f)) => .inr (.inr (.inl f))
  | .inr (.inr (.inr (.inl f))) => .inr (.inr (.inr (.inl f)))
def qa_e (ca : Nat → Nat) (cA : Nat → ClassId) : qa_C → va_E
  | .inl (t, n, x) => .inl (cA t, n, qa_x ca x)
  | .inr (ci, fs) => .inr (ci, fs.map (qa_v ca))
def qa_ws (ca : Nat → Nat) (cA : Nat → ClassId) (h : qa_H) : va_W := (List.range h.2.1).map (fun k => (ca (64 + k), qa_e ca cA (h.1 (64 + k))))
def qa_up (f : Nat → qa_C) (a : Nat) (x : qa_C) : Nat → qa_C := fun j => if j = a then x else f j
theorem qa_up_s {f : Nat → qa_C} {a : Nat} {x : qa_C} : qa_up f a x a = x := if_pos rfl
theorem qa_up_n {f : Nat → qa_C} {a j : Nat} {x : qa_C} (h : j ≠ a) : qa_up f a x j = f j := if_neg h
theorem qa_ws_at {ca : Nat → Nat} {cA : Nat → ClassId} {h : qa_H} {a : Nat} (h1 : 64 ≤ a) (h2 : a < 64 + h.2.1) : (qa_ws ca cA h)[a - 64]? = some (ca a, qa_e ca cA (h.1 a)) := by
  unfold qa_ws
  rw [List.getElem?_map, List.getElem?_range (by omega)]
  rw [Option.map_some, show 64 + (a - 64) = a by omega]
theorem qa_ws_set {ca : Nat → Nat} {cA : Nat → ClassId} {f : Nat → qa_C} {g : Nat × Nat × Nat} {a : Nat} (x : qa_C) (h1 : 64 ≤ a) (h2 : a < 64 + g.1) : (qa_ws ca cA (f, g)).set (a - 64) (ca a, qa_e ca cA x) = qa_ws ca cA (qa_up f a x, g) := by
  apply List.ext_getElem?
  intro i
  unfold qa_ws
  rw [List.getElem?_set]
  by_cases hi : a - 64 = i
  · rw [if_pos hi, if_pos (by rw [List.length_map, List.length_range]; dsimp only; omega)]
    subst hi
    rw [List.getElem?_map, List.getElem?_range (by dsimp only; omega), Option.map_some, show 64 + (a - 64) = a by omega]
    dsimp only
    rw [qa_up_s]
  · rw [if_neg hi, List.getElem?_map, List.getElem?_map]
    by_cases hl : i < g.1
    · rw [List.getElem?_range hl, Option.map_some, Option.map_some]
      dsimp only
      rw [qa_up_n (by omega)]
    · rw [List.getElem?_eq_none (by rw [List.length_range]; exact Nat.not_lt.mp hl)]
      rfl
theorem qa_ws_app {ca : Nat → Nat} {cA : Nat → ClassId} {f : Nat → qa_C} {n : Nat} {g g' : Nat × Nat} (x : qa_C) : qa_ws ca cA (f, n, g) ++ [(ca (64 + n), qa_e ca cA x)] = qa_ws ca cA (qa_up f (64 + n) x, n + 1, g') := by
  unfold qa_ws
  dsimp only
  rw [List.range_succ, List.map_append]
  congr 1
  · apply List.map_congr_left
    intro k hk
    rw [List.mem_range] at hk
    rw [qa_up_n (by omega)]
  · rw [List.map_cons, List.map_nil, qa_up_s]
theorem qa_ws_D {st : Nat → Nat} {bs : Nat} {cA : Nat → ClassId} {h : qa_H} : va_D (fun q => bs ≤ q) (qa_ws (qa_ca st bs) cA h) := by
  have hat : ∀ (k : Nat) (q : Nat × va_E), (qa_ws (qa_ca st bs) cA h)[k]? = some q → q.1 = bs + k := by
    intro k q hk
    unfold qa_ws at hk
    rw [List.getElem?_map] at hk
    cases hr : (List.range h.2.1)[k]? with
    | none => rw [hr] at hk; cases hk
    | some z =>
      have hz := List.getElem?_eq_some_iff.mp hr
      obtain ⟨h1, h2⟩ := hz
      rw [List.getElem_range] at h2
      rw [hr, Option.map_some] at hk
      have := Option.some.inj hk
      subst this
      subst h2
      show qa_ca st bs (64 + k) = bs + k
      unfold qa_ca
      rw [if_neg (by omega)]
      omega
  refine ⟨fun i j p q hi hj e => ?_, fun k q hk => ?_⟩
  · rw [hat i p hi, hat j q hj] at e
    omega
  · show bs ≤ q.1
    rw [hat k q hk]
    omega
