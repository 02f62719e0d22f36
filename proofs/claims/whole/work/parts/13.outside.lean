/-! tables of what stands outside; code as lists of steps -/
def qw_tl : Nat → Option Value := fun a => if a < 23 then some (.long (qw_let a)) else none
def qw_tc : Nat → Option Value := fun a => if 25 ≤ a ∧ a < 28 then some (.int 0) else none
def qw_tv : Nat → Option Value := fun a => if 25 ≤ a ∧ a < 28 then some (.ref (a + 5)) else none
def qw_ta : Nat → Option (List Value) := fun a => if a = 24 then some ((List.range 23).map Value.ref) else none
def qw_tb : Nat → Option (List Value) := fun a => if 30 ≤ a ∧ a < 33 then some ((qw_by.getD (a - 30) []).map Value.int) else none
theorem qw_tl_ok : ∀ a v, qw_tl a = some v → a < 64 ∧ (a, "SistersBoard$Word", "letters", "J", v) ∈ qw_F := by
  intro a v h
  unfold qw_tl at h
  split at h
  · rename_i ha
    cases h
    exact ⟨by omega, List.mem_append_left _ (List.mem_append_left _ (List.mem_map.mpr ⟨a, List.mem_range.mpr ha, rfl⟩))⟩
  · cases h
theorem qw_tc_ok : ∀ a v, qw_tc a = some v → a < 64 ∧ (a, "java/lang/String", "coder", "B", v) ∈ qw_F := by
  intro a v h
  unfold qw_tc at h
  split at h
  · rename_i ha
    cases h
    exact ⟨by omega, List.mem_append_left _ (List.mem_append_right _ (List.mem_map.mpr ⟨a - 25, List.mem_range.mpr (by omega), by rw [show 25 + (a - 25) = a by omega]⟩))⟩
  · cases h
theorem qw_tv_ok : ∀ a v, qw_tv a = some v → a < 64 ∧ (a, "java/lang/String", "value", "[B", v) ∈ qw_F := by
  intro a v h
  unfold qw_tv at h
  split at h
  · rename_i ha
    cases h
    exact ⟨by omega, List.mem_append_right _ (List.mem_map.mpr ⟨a - 25, List.mem_range.mpr (by omega), by rw [show 25 + (a - 25) = a by omega, show 30 + (a - 25) = a + 5 by omega]⟩)⟩
  · cases h
theorem qw_ta_ok : ∀ a vs, qw_ta a = some vs → a < 64 ∧ (a, FieldType.object "SistersBoard$Word", vs) ∈ qw_T := by
  intro a vs h
  unfold qw_ta at h
  split at h
  · rename_i ha
    cases h
    subst ha
    exact ⟨by omega, List.mem_cons_self⟩
  · cases h
theorem qw_tb_ok : ∀ a vs, qw_tb a = some vs → a < 64 ∧ (a, FieldType.byte, vs) ∈ qw_T := by
  intro a vs h
  unfold qw_tb at h
  split at h
  · rename_i ha
    cases h
    exact ⟨by omega, List.mem_cons_of_mem _ (List.mem_map.mpr ⟨a - 30, List.mem_range.mpr (by omega), by rw [show 30 + (a - 30) = a by omega]⟩)⟩
  · cases h
def qh_min (n : Nat) : qa_J := fun L S h => match S with
  | .int y :: .int x :: S => if (S.map fun v => v.category).sum ≤ 8 then some (n, L, .int (if y < x then y else x) :: S, h) else none
  | _ => none
theorem qs_min {NW : List (String × Nat × MethodName × String)} {own nm : String} {cc : ByteArray} {nL pc i : Nat} (hw : Cond.methodLink own i Lib.Math.min.name ∈ qa_GW) (hw2 : Cond.static Lib.Math.min.name ∈ qa_GW) (hw3 : Cond.initialized "java/lang/Math" ∈ qa_GW) (hw4 : Cond.code Lib.Math.min.name Lib.Math.min.code 2 (some .int) ∈ qa_GW) (hd : decode cc pc = .ok (.invokestatic i, 3)) : qa_QW NW own nm cc nL pc (qh_min (pc + 3)) := by
  refine ⟨fun L S h y hy => ?_, ?_⟩
  · unfold qh_min at hy
    split at hy
    · split at hy
      · cases hy
        exact ⟨Nat.le_refl _, Nat.le_refl _⟩
      · cases hy
    · cases hy
  · intro ret D cA st bs p l e R s m args below meth c H locs n0 s0 Q ls L S h y B hX hbs hfr hlo hy hR hL hS hn0 hs0 hup hcs hss kk
    obtain ⟨hx, hb, hml, hown, hts, hr, hlk, hnam⟩ := B
    unfold qh_min at hy
    split at hy
    · rename_i y1 x1 S'
      split at hy
      · rename_i hsum
        cases hy
        have e := qa_catsum (ca := qa_ca st bs) (S := S')
        exact va_mmin hx hb (hml.trans hL.1.symm) hown (hts _ hw) (hts _ hw2) (hts _ hw3) (hts _ hw4) hfr (by omega) hcs hss hd (kk H locs ls hR hL hS)
      · cases hy
    · cases hy
def qh_max (n : Nat) : qa_J := fun L S h => match S with
  | .int y :: .int x :: S => if (S.map fun v => v.category).sum ≤ 8 then some (n, L, .int (if x < y then y else x) :: S, h) else none
  | _ => none
theorem qs_max {NW : List (String × Nat × MethodName × String)} {own nm : String} {cc : ByteArray} {nL pc i : Nat} (hw : Cond.methodLink own i Lib.Math.max.name ∈ qa_GW) (hw2 : Cond.static Lib.Math.max.name ∈ qa_GW) (hw3 : Cond.initialized "java/lang/Math" ∈ qa_GW) (hw4 : Cond.code Lib.Math.max.name Lib.Math.max.code 2 (some .int) ∈ qa_GW) (hd : decode cc pc = .ok (.invokestatic i, 3)) : qa_QW NW own nm cc nL pc (qh_max (pc + 3)) := by
  refine ⟨fun L S h y hy => ?_, ?_⟩
  · unfold qh_max at hy
    split at hy
    · split at hy
      · cases hy
        exact ⟨Nat.le_refl _, Nat.le_refl _⟩
      · cases hy
    · cases hy
  · intro ret D cA st bs p l e R s m args below meth c H locs n0 s0 Q ls L S h y B hX hbs hfr hlo hy hR hL hS hn0 hs0 hup hcs hss kk
    obtain ⟨hx, hb, hml, hown, hts, hr, hlk, hnam⟩ := B
    unfold qh_max at hy
    split at hy
    · rename_i y1 x1 S'
      split at hy
      · rename_i hsum
        cases hy
        have e := qa_catsum (ca := qa_ca st bs) (S := S')
        exact va_mmax hx hb (hml.trans hL.1.symm) hown (hts _ hw) (hts _ hw2) (hts _ hw3) (hts _ hw4) hfr (by omega) hcs hss hd (kk H locs ls hR hL hS)
      · cases hy
    · cases hy
def qa_all (P : Nat → qa_Op → Prop) : List (Nat × qa_Op) → Prop
  | [] => True
  | q :: r => P q.1 q.2 ∧ qa_all P r
theorem qa_all_at {P : Nat → qa_Op → Prop} : ∀ {l : List (Nat × qa_Op)}, qa_all P l → ∀ pc op, l.lookup pc = some op → P pc op
  | [], _, pc, op, h => by cases h
  | q :: r, hl, pc, op, h => by
    obtain ⟨k, v⟩ := q
    rw [List.lookup_cons] at h
    split at h
    · rename_i he
      cases h
      rw [beq_iff_eq] at he
      subst he
      exact hl.1
    · exact qa_all_at hl.2 pc op h
theorem qa_all_app {P : Nat → qa_Op → Prop} : ∀ {a b : List (Nat × qa_Op)}, qa_all P a → qa_all P b → qa_all P (a ++ b)
  | [], _, _, h => h
  | _ :: _, _, ha, hb => ⟨ha.1, qa_all_app ha.2 hb⟩
