/-! locals by place; a place that holds nothing that may be read: .retAddr 0 -/
def qa_L (ca : Nat → Nat) (nL : Nat) (L : List Value) (ls : Array Slot) : Prop := ls.size = nL ∧ lv_wf ls ∧ ∀ (i : Nat) (v : Value), L[i]? = some v → (∀ z, v ≠ .retAddr z) → ls[i]? = some (.val (qa_v ca v))
def qa_lv (ca : Nat → Nat) (L : List Value) : List (Nat × Value) := (List.range L.length).filterMap (fun i => match L[i]? with | some (Value.retAddr _) => none | some v => some (i, qa_v ca v) | none => none)
theorem qa_lv_mem {ca : Nat → Nat} {L : List Value} {q : Nat × Value} (h : q ∈ qa_lv ca L) : ∃ v, L[q.1]? = some v ∧ (∀ z, v ≠ .retAddr z) ∧ q.2 = qa_v ca v := by
  unfold qa_lv at h
  obtain ⟨i, -, hi⟩ := List.mem_filterMap.mp h
  split at hi
  · cases hi
  · rename_i v hne hv
    cases hi
    exact ⟨v, hv, fun z hz => hne z hz, rfl⟩
  · cases hi
theorem qa_lv_in {ca : Nat → Nat} {L : List Value} {i : Nat} {v : Value} (h : L[i]? = some v) (hn : ∀ z, v ≠ .retAddr z) : (i, qa_v ca v) ∈ qa_lv ca L := by
  unfold qa_lv
  refine List.mem_filterMap.mpr ⟨i, List.mem_range.mpr (List.getElem?_eq_some_iff.mp h).1, ?_⟩
  rw [h]
  cases v <;> first | rfl | exact absurd rfl (hn _)
theorem qa_L.has {ca : Nat → Nat} {nL : Nat} {L : List Value} {ls : Array Slot} (h : qa_L ca nL L ls) : lv_has ls nL (qa_lv ca L) := by
  refine ⟨h.1, h.2.1, fun q hq => ?_⟩
  obtain ⟨v, h1, h2, h3⟩ := qa_lv_mem hq
  rw [h3]
  exact h.2.2 _ _ h1 h2
theorem qa_L.at {ca : Nat → Nat} {nL : Nat} {L : List Value} {ls : Array Slot} (h : qa_L ca nL L ls) {i : Nat} {v : Value} (hv : L[i]? = some v) (hn : ∀ z, v ≠ .retAddr z) : ls[i]? = some (.val (qa_v ca v)) := h.2.2 i v hv hn
theorem qa_cat (ca : Nat → Nat) (v : Value) : (qa_v ca v).category = v.category := by cases v <;> rfl
def qa_cr (i : Nat) (L : List Value) : List Value := match i with
  | 0 => L
  | j + 1 => match L[j]? with
    | some (.long _) => L.set j (.retAddr 0)
    | some (.double _) => L.set j (.retAddr 0)
    | _ => L
def qa_s1 (i : Nat) (x : Value) (L : List Value) : List Value := (qa_cr i L).set i x
def qa_s2 (i : Nat) (x : Value) (L : List Value) : List Value := ((qa_cr i L).set i x).set (i + 1) (.retAddr 0)
/-- what stays behind a clearing: not a half of a broken pair -/
theorem qa_cr_at {i j : Nat} {L : List Value} {v : Value} (h : (qa_cr i L)[j]? = some v) (hn : ∀ z, v ≠ .retAddr z) : L[j]? = some v ∧ ¬ (j + 1 = i ∧ v.category = 2) := by
  cases i with
  | zero => exact ⟨h, fun q => by omega⟩
  | succ k =>
    unfold qa_cr at h
    dsimp only at h
    split at h
    · by_cases hj : k = j
      · subst hj
        rw [List.getElem?_set] at h
        rw [if_pos rfl] at h
        split at h
        · cases h; exact absurd rfl (hn 0)
        · cases h
      · rw [List.getElem?_set_ne hj] at h
        exact ⟨h, fun q => by omega⟩
    · by_cases hj : k = j
      · subst hj
        rw [List.getElem?_set] at h
        rw [if_pos rfl] at h
        split at h
        · cases h; exact absurd rfl (hn 0)
        · cases h
      · rw [List.getElem?_set_ne hj] at h
        exact ⟨h, fun q => by omega⟩
    · rename_i h1 h2
      refine ⟨h, fun q => ?_⟩
      obtain ⟨q1, q2⟩ := q
      have hj : j = k := by omega
      subst hj
      cases v with
      | long x => exact h1 x h
      | double x => exact h2 x h
      | int x => cases q2
      | float x => cases q2
      | null => cases q2
      | ref x => cases q2
      | retAddr x => exact hn x rfl
theorem qa_L.s1 {ca : Nat → Nat} {nL i : Nat} {L : List Value} {x : Value} {ls' : Array Slot} (h : lv_has ls' nL ((i, qa_v ca x) :: (qa_lv ca L).filter (fun q => !(q.1 == i) && !(q.1 + 1 == i && q.2.category == 2)))) : qa_L ca nL (qa_s1 i x L) ls' := by
  refine ⟨h.1, h.2.1, fun j v hj hn => ?_⟩
  unfold qa_s1 at hj
  by_cases hij : i = j
  · subst hij
    rw [List.getElem?_set, if_pos rfl] at hj
    split at hj
    · cases hj
      exact h.2.2 _ List.mem_cons_self
    · cases hj
  · rw [List.getElem?_set_ne hij] at hj
    obtain ⟨g1, g2⟩ := qa_cr_at hj hn
    refine h.2.2 (j, qa_v ca v) (List.mem_cons_of_mem _ (List.mem_filter.mpr ⟨qa_lv_in g1 hn, ?_⟩))
    rw [qa_cat]
    simp only [Bool.and_eq_true, Bool.not_eq_true', beq_eq_false_iff_ne, Bool.and_eq_false_iff, ne_eq]
    exact ⟨fun q => hij q.symm, by
      by_cases q : j + 1 = i
      · exact Or.inr (fun z => g2 ⟨q, z⟩)
      · exact Or.inl q⟩
theorem qa_L.s2 {ca : Nat → Nat} {nL i : Nat} {L : List Value} {x : Value} {ls' : Array Slot} (h : lv_has ls' nL ((i, qa_v ca x) :: (qa_lv ca L).filter (fun q => !(q.1 == i) && (!(q.1 == i + 1) && !(q.1 + 1 == i && q.2.category == 2))))) : qa_L ca nL (qa_s2 i x L) ls' := by
  refine ⟨h.1, h.2.1, fun j v hj hn => ?_⟩
  unfold qa_s2 at hj
  by_cases hi1 : i + 1 = j
  · subst hi1
    rw [List.getElem?_set, if_pos rfl] at hj
    split at hj
    · cases hj; exact absurd rfl (hn 0)
    · cases hj
  rw [List.getElem?_set_ne hi1] at hj
  by_cases hij : i = j
  · subst hij
    rw [List.getElem?_set, if_pos rfl] at hj
    split at hj
    · cases hj
      exact h.2.2 _ List.mem_cons_self
    · cases hj
  · rw [List.getElem?_set_ne hij] at hj
    obtain ⟨g1, g2⟩ := qa_cr_at hj hn
    refine h.2.2 (j, qa_v ca v) (List.mem_cons_of_mem _ (List.mem_filter.mpr ⟨qa_lv_in g1 hn, ?_⟩))
    rw [qa_cat]
    simp only [Bool.and_eq_true, Bool.not_eq_true', beq_eq_false_iff_ne, Bool.and_eq_false_iff, ne_eq]
    exact ⟨fun q => hij q.symm, fun q => hi1 q.symm, by
      by_cases q : j + 1 = i
      · exact Or.inr (fun z => g2 ⟨q, z⟩)
      · exact Or.inl q⟩
/-! steps that read and write the frame alone -/
abbrev qa_P : Type := List Value → List Value → Option (Nat × List Value × List Value)
def qa_p (g : qa_P) : qa_Op := fun _ L S h => match g L S with
  | none => none
  | some z => some (.inl (z.1, z.2.1, z.2.2, h))
/-- what a method's frame stands on -/
def qa_B (own nm : String) (cc : ByteArray) (nL : Nat) (ret : Option FieldType) (p : Program) (s : State) (m : MethodId) (args : Array Value) (meth : Method) (c : Code) : Prop :=
  p.tables.exec = Jvm.exec ∧ c.code = cc ∧ c.maxLocals = nL ∧ s.vm.findClass own = some m.cls ∧ (∀ w ∈ qa_GW, w.before args s = true) ∧ meth.sig.returnType = ret ∧ meth.locks = false ∧ meth.name = nm
/-- a step of the frame alone keeps the machine's walk -/
def qa_PW (own : String) (cc : ByteArray) (nL pc : Nat) (g : qa_P) : Prop := ∀ {nm : String} {ret : Option FieldType} {st : Nat → Nat} {bs : Nat} {p : Program} {l : Launch} {e : Env} {R : Room} {s : State} {m : MethodId} {args : Array Value} {below : List Frame} {meth : Method} {c : Code} {H : Heap} {locs : List Loc} {cells slots : Nat} {Q : State → Prop}, qa_B own nm cc nL ret p s m args meth c → (∀ i j, i < 23 → j < 23 → st i = st j → i = j) → ∀ (L S : List Value) (z : Nat × List Value × List Value) (ls : Array Slot), g L S = some z → qa_L (qa_ca st bs) nL L ls → (∀ ls1, qa_L (qa_ca st bs) nL z.2.1 ls1 → W p l e R s m args below meth c H locs cells slots Q (F0 m z.1 ls1 (z.2.2.map (qa_v (qa_ca st bs))))) → W p l e R s m args below meth c H locs cells slots Q (F0 m pc ls (S.map (qa_v (qa_ca st bs))))
def qp_iadd (n : Nat) : qa_P := fun L S => match S with
  | .int y :: .int x :: S => some (n, L, .int (x + y) :: S)
  | _ => none
theorem qs_iadd {own : String} {cc : ByteArray} {nL pc : Nat} (hd : decode cc pc = .ok (.iadd, 1)) : qa_PW own cc nL pc (qp_iadd (pc + 1)) := by
  intro nm ret st bs p l e R s m args below meth c H locs cells slots Q B hst L S z ls hg hl k
  obtain ⟨hx, hb, -⟩ := B
  unfold qp_iadd at hg
  split at hg
  · cases hg
    exact lv_iadd hx hb hd (k ls hl)
  · cases hg
def qp_isub (n : Nat) : qa_P := fun L S => match S with
  | .int y :: .int x :: S => some (n, L, .int (x - y) :: S)
  | _ => none
theorem qs_isub {own : String} {cc : ByteArray} {nL pc : Nat} (hd : decode cc pc = .ok (.isub, 1)) : qa_PW own cc nL pc (qp_isub (pc + 1)) := by
  intro nm ret st bs p l e R s m args below meth c H locs cells slots Q B hst L S z ls hg hl k
  obtain ⟨hx, hb, -⟩ := B
  unfold qp_isub at hg
  split at hg
  · cases hg
    exact lv_isub hx hb hd (k ls hl)
  · cases hg
def qp_imul (n : Nat) : qa_P := fun L S => match S with
  | .int y :: .int x :: S => some (n, L, .int (x * y) :: S)
  | _ => none
theorem qs_imul {own : String} {cc : ByteArray} {nL pc : Nat} (hd : decode cc pc = .ok (.imul, 1)) : qa_PW own cc nL pc (qp_imul (pc + 1)) := by
  intro nm ret st bs p l e R s m args below meth c H locs cells slots Q B hst L S z ls hg hl k
  obtain ⟨hx, hb, -⟩ := B
  unfold qp_imul at hg
  split at hg
  · cases hg
    exact lv_imul hx hb hd (k ls hl)
  · cases hg
def qp_iand (n : Nat) : qa_P := fun L S => match S with
  | .int y :: .int x :: S => some (n, L, .int (x &&& y) :: S)
  | _ => none
theorem qs_iand {own : String} {cc : ByteArray} {nL pc : Nat} (hd : decode cc pc = .ok (.iand, 1)) : qa_PW own cc nL pc (qp_iand (pc + 1)) := by
  intro nm ret st bs p l e R s m args below meth c H locs cells slots Q B hst L S z ls hg hl k
  obtain ⟨hx, hb, -⟩ := B
  unfold qp_iand at hg
  split at hg
  · cases hg
    exact lv_iand hx hb hd (k ls hl)
  · cases hg
def qp_ior (n : Nat) : qa_P := fun L S => match S with
  | .int y :: .int x :: S => some (n, L, .int (x ||| y) :: S)
  | _ => none
theorem qs_ior {own : String} {cc : ByteArray} {nL pc : Nat} (hd : decode cc pc = .ok (.ior, 1)) : qa_PW own cc nL pc (qp_ior (pc + 1)) := by
  intro nm ret st bs p l e R s m args below meth c H locs cells slots Q B hst L S z ls hg hl k
  obtain ⟨hx, hb, -⟩ := B
  unfold qp_ior at hg
  split at hg
  · cases hg
    exact lv_ior hx hb hd (k ls hl)
  · cases hg
def qp_ixor (n : Nat) : qa_P := fun L S => match S with
  | .int y :: .int x :: S => some (n, L, .int (x ^^^ y) :: S)
  | _ => none
theorem qs_ixor {own : String} {cc : ByteArray} {nL pc : Nat} (hd : decode cc pc = .ok (.ixor, 1)) : qa_PW own cc nL pc (qp_ixor (pc + 1)) := by
  intro nm ret st bs p l e R s m args below meth c H locs cells slots Q B hst L S z ls hg hl k
  obtain ⟨hx, hb, -⟩ := B
  unfold qp_ixor at hg
  split at hg
  · cases hg
    exact lv_ixor hx hb hd (k ls hl)
  · cases hg
def qp_ishl (n : Nat) : qa_P := fun L S => match S with
  | .int y :: .int x :: S => some (n, L, .int (x <<< (y &&& 31)) :: S)
  | _ => none
theorem qs_ishl {own : String} {cc : ByteArray} {nL pc : Nat} (hd : decode cc pc = .ok (.ishl, 1)) : qa_PW own cc nL pc (qp_ishl (pc + 1)) := by
  intro nm ret st bs p l e R s m args below meth c H locs cells slots Q B hst L S z ls hg hl k
  obtain ⟨hx, hb, -⟩ := B
  unfold qp_ishl at hg
  split at hg
  · cases hg
    exact lv_ishl hx hb hd (k ls hl)
  · cases hg
def qp_ishr (n : Nat) : qa_P := fun L S => match S with
  | .int y :: .int x :: S => some (n, L, .int (x >>> (y &&& 31)) :: S)
  | _ => none
theorem qs_ishr {own : String} {cc : ByteArray} {nL pc : Nat} (hd : decode cc pc = .ok (.ishr, 1)) : qa_PW own cc nL pc (qp_ishr (pc + 1)) := by
  intro nm ret st bs p l e R s m args below meth c H locs cells slots Q B hst L S z ls hg hl k
  obtain ⟨hx, hb, -⟩ := B
  unfold qp_ishr at hg
  split at hg
  · cases hg
    exact lv_ishr hx hb hd (k ls hl)
  · cases hg
def qp_iushr (n : Nat) : qa_P := fun L S => match S with
  | .int y :: .int x :: S => some (n, L, .int ((x.toUInt32 >>> (y.toUInt32 &&& Int32.toUInt32 31)).toInt32) :: S)
  | _ => none
theorem qs_iushr {own : String} {cc : ByteArray} {nL pc : Nat} (hd : decode cc pc = .ok (.iushr, 1)) : qa_PW own cc nL pc (qp_iushr (pc + 1)) := by
  intro nm ret st bs p l e R s m args below meth c H locs cells slots Q B hst L S z ls hg hl k
  obtain ⟨hx, hb, -⟩ := B
  unfold qp_iushr at hg
  split at hg
  · cases hg
    exact lv_iushr hx hb hd rfl (k ls hl)
  · cases hg
def qp_ladd (n : Nat) : qa_P := fun L S => match S with
  | .long y :: .long x :: S => some (n, L, .long (x + y) :: S)
  | _ => none
theorem qs_ladd {own : String} {cc : ByteArray} {nL pc : Nat} (hd : decode cc pc = .ok (.ladd, 1)) : qa_PW own cc nL pc (qp_ladd (pc + 1)) := by
  intro nm ret st bs p l e R s m args below meth c H locs cells slots Q B hst L S z ls hg hl k
  obtain ⟨hx, hb, -⟩ := B
  unfold qp_ladd at hg
  split at hg
  · cases hg
    exact lv_ladd hx hb hd (k ls hl)
  · cases hg
def qp_lsub (n : Nat) : qa_P := fun L S => match S with
  | .long y :: .long x :: S => some (n, L, .long (x - y) :: S)
  | _ => none
theorem qs_lsub {own : String} {cc : ByteArray} {nL pc : Nat} (hd : decode cc pc = .ok (.lsub, 1)) : qa_PW own cc nL pc (qp_lsub (pc + 1)) := by
  intro nm ret st bs p l e R s m args below meth c H locs cells slots Q B hst L S z ls hg hl k
  obtain ⟨hx, hb, -⟩ := B
  unfold qp_lsub at hg
  split at hg
  · cases hg
    exact lv_lsub hx hb hd (k ls hl)
  · cases hg
def qp_lmul (n : Nat) : qa_P := fun L S => match S with
  | .long y :: .long x :: S => some (n, L, .long (x * y) :: S)
  | _ => none
theorem qs_lmul {own : String} {cc : ByteArray} {nL pc : Nat} (hd : decode cc pc = .ok (.lmul, 1)) : qa_PW own cc nL pc (qp_lmul (pc + 1)) := by
  intro nm ret st bs p l e R s m args below meth c H locs cells slots Q B hst L S z ls hg hl k
  obtain ⟨hx, hb, -⟩ := B
  unfold qp_lmul at hg
  split at hg
  · cases hg
    exact lv_lmul hx hb hd (k ls hl)
  · cases hg
def qp_land (n : Nat) : qa_P := fun L S => match S with
  | .long y :: .long x :: S => some (n, L, .long (x &&& y) :: S)
  | _ => none
theorem qs_land {own : String} {cc : ByteArray} {nL pc : Nat} (hd : decode cc pc = .ok (.land, 1)) : qa_PW own cc nL pc (qp_land (pc + 1)) := by
  intro nm ret st bs p l e R s m args below meth c H locs cells slots Q B hst L S z ls hg hl k
  obtain ⟨hx, hb, -⟩ := B
  unfold qp_land at hg
  split at hg
  · cases hg
    exact lv_land hx hb hd (k ls hl)
  · cases hg
def qp_lor (n : Nat) : qa_P := fun L S => match S with
  | .long y :: .long x :: S => some (n, L, .long (x ||| y) :: S)
  | _ => none
theorem qs_lor {own : String} {cc : ByteArray} {nL pc : Nat} (hd : decode cc pc = .ok (.lor, 1)) : qa_PW own cc nL pc (qp_lor (pc + 1)) := by
  intro nm ret st bs p l e R s m args below meth c H locs cells slots Q B hst L S z ls hg hl k
  obtain ⟨hx, hb, -⟩ := B
  unfold qp_lor at hg
  split at hg
  · cases hg
    exact lv_lor hx hb hd (k ls hl)
  · cases hg
def qp_lshl (n : Nat) : qa_P := fun L S => match S with
  | .int y :: .long x :: S => some (n, L, .long (x <<< (y.toInt64 &&& 63)) :: S)
  | _ => none
theorem qs_lshl {own : String} {cc : ByteArray} {nL pc : Nat} (hd : decode cc pc = .ok (.lshl, 1)) : qa_PW own cc nL pc (qp_lshl (pc + 1)) := by
  intro nm ret st bs p l e R s m args below meth c H locs cells slots Q B hst L S z ls hg hl k
  obtain ⟨hx, hb, -⟩ := B
  unfold qp_lshl at hg
  split at hg
  · cases hg
    exact lv_lshl hx hb hd rfl (k ls hl)
  · cases hg
def qp_lshr (n : Nat) : qa_P := fun L S => match S with
  | .int y :: .long x :: S => some (n, L, .long (x >>> (y.toInt64 &&& 63)) :: S)
  | _ => none
theorem qs_lshr {own : String} {cc : ByteArray} {nL pc : Nat} (hd : decode cc pc = .ok (.lshr, 1)) : qa_PW own cc nL pc (qp_lshr (pc + 1)) := by
  intro nm ret st bs p l e R s m args below meth c H locs cells slots Q B hst L S z ls hg hl k
  obtain ⟨hx, hb, -⟩ := B
  unfold qp_lshr at hg
  split at hg
  · cases hg
    exact lv_lshr hx hb hd rfl (k ls hl)
  · cases hg
def qp_lushr (n : Nat) : qa_P := fun L S => match S with
  | .int y :: .long x :: S => some (n, L, .long ((x.toUInt64 >>> (y.toInt64.toUInt64 &&& Int64.toUInt64 63)).toInt64) :: S)
  | _ => none
theorem qs_lushr {own : String} {cc : ByteArray} {nL pc : Nat} (hd : decode cc pc = .ok (.lushr, 1)) : qa_PW own cc nL pc (qp_lushr (pc + 1)) := by
  intro nm ret st bs p l e R s m args below meth c H locs cells slots Q B hst L S z ls hg hl k
  obtain ⟨hx, hb, -⟩ := B
  unfold qp_lushr at hg
  split at hg
  · cases hg
    exact lv_lushr hx hb hd rfl (k ls hl)
  · cases hg
def qp_i2l (n : Nat) : qa_P := fun L S => match S with
  | .int x :: S => some (n, L, .long x.toInt64 :: S)
  | _ => none
theorem qs_i2l {own : String} {cc : ByteArray} {nL pc : Nat} (hd : decode cc pc = .ok (.i2l, 1)) : qa_PW own cc nL pc (qp_i2l (pc + 1)) := by
  intro nm ret st bs p l e R s m args below meth c H locs cells slots Q B hst L S z ls hg hl k
  obtain ⟨hx, hb, -⟩ := B
  unfold qp_i2l at hg
  split at hg
  · cases hg
    exact lv_i2l hx hb hd rfl (k ls hl)
  · cases hg
def qp_l2i (n : Nat) : qa_P := fun L S => match S with
  | .long x :: S => some (n, L, .int x.toInt32 :: S)
  | _ => none
theorem qs_l2i {own : String} {cc : ByteArray} {nL pc : Nat} (hd : decode cc pc = .ok (.l2i, 1)) : qa_PW own cc nL pc (qp_l2i (pc + 1)) := by
  intro nm ret st bs p l e R s m args below meth c H locs cells slots Q B hst L S z ls hg hl k
  obtain ⟨hx, hb, -⟩ := B
  unfold qp_l2i at hg
  split at hg
  · cases hg
    exact lv_l2i hx hb hd rfl (k ls hl)
  · cases hg
def qp_idiv (n : Nat) : qa_P := fun L S => match S with
  | .int y :: .int x :: S => if y = 0 then none else some (n, L, .int (x / y) :: S)
  | _ => none
theorem qs_idiv {own : String} {cc : ByteArray} {nL pc : Nat} (hd : decode cc pc = .ok (.idiv, 1)) : qa_PW own cc nL pc (qp_idiv (pc + 1)) := by
  intro nm ret st bs p l e R s m args below meth c H locs cells slots Q B hst L S z ls hg hl k
  obtain ⟨hx, hb, -⟩ := B
  unfold qp_idiv at hg
  split at hg
  · split at hg
    · cases hg
    · rename_i hy
      cases hg
      exact lv_idiv hx hb hd hy (k ls hl)
  · cases hg
def qp_irem (n : Nat) : qa_P := fun L S => match S with
  | .int y :: .int x :: S => if y = 0 then none else some (n, L, .int (x - x / y * y) :: S)
  | _ => none
theorem qs_irem {own : String} {cc : ByteArray} {nL pc : Nat} (hd : decode cc pc = .ok (.irem, 1)) : qa_PW own cc nL pc (qp_irem (pc + 1)) := by
  intro nm ret st bs p l e R s m args below meth c H locs cells slots Q B hst L S z ls hg hl k
  obtain ⟨hx, hb, -⟩ := B
  unfold qp_irem at hg
  split at hg
  · split at hg
    · cases hg
    · rename_i hy
      cases hg
      exact lv_irem hx hb hd hy (k ls hl)
  · cases hg
def qp_ldiv (n : Nat) : qa_P := fun L S => match S with
  | .long y :: .long x :: S => if y = 0 then none else some (n, L, .long (x / y) :: S)
  | _ => none
theorem qs_ldiv {own : String} {cc : ByteArray} {nL pc : Nat} (hd : decode cc pc = .ok (.ldiv, 1)) : qa_PW own cc nL pc (qp_ldiv (pc + 1)) := by
  intro nm ret st bs p l e R s m args below meth c H locs cells slots Q B hst L S z ls hg hl k
  obtain ⟨hx, hb, -⟩ := B
  unfold qp_ldiv at hg
  split at hg
  · split at hg
    · cases hg
    · rename_i hy
      cases hg
      exact lv_ldiv hx hb hd hy (k ls hl)
  · cases hg
def qp_lrem (n : Nat) : qa_P := fun L S => match S with
  | .long y :: .long x :: S => if y = 0 then none else some (n, L, .long (x - x / y * y) :: S)
  | _ => none
theorem qs_lrem {own : String} {cc : ByteArray} {nL pc : Nat} (hd : decode cc pc = .ok (.lrem, 1)) : qa_PW own cc nL pc (qp_lrem (pc + 1)) := by
  intro nm ret st bs p l e R s m args below meth c H locs cells slots Q B hst L S z ls hg hl k
  obtain ⟨hx, hb, -⟩ := B
  unfold qp_lrem at hg
  split at hg
  · split at hg
    · cases hg
    · rename_i hy
      cases hg
      exact lv_lrem hx hb hd hy (k ls hl)
  · cases hg
def qp_c (v : Value) (n : Nat) : qa_P := fun L S => some (n, L, v :: S)
theorem qs_iconst {own : String} {cc : ByteArray} {nL pc : Nat} {k : Int} {v : Int32} (hd : decode cc pc = .ok (.iconst k, 1)) (hv : Int32.ofInt k = v) : qa_PW own cc nL pc (qp_c (.int v) (pc + 1)) := by
  intro nm ret st bs p l e R s m args below meth c H locs cells slots Q B hst L S z ls hg hl k
  obtain ⟨hx, hb, -⟩ := B
  cases hg
  exact lv_iconst hx hb hd hv (k ls hl)
theorem qs_bipush {own : String} {cc : ByteArray} {nL pc : Nat} {k : Int} {v : Int32} (hd : decode cc pc = .ok (.bipush k, 2)) (hv : (Int8.ofInt k).toInt32 = v) : qa_PW own cc nL pc (qp_c (.int v) (pc + 2)) := by
  intro nm ret st bs p l e R s m args below meth c H locs cells slots Q B hst L S z ls hg hl k
  obtain ⟨hx, hb, -⟩ := B
  cases hg
  exact lv_bipush hx hb hd hv (k ls hl)
theorem qs_sipush {own : String} {cc : ByteArray} {nL pc : Nat} {k : Int} {v : Int32} (hd : decode cc pc = .ok (.sipush k, 3)) (hv : (Int16.ofInt k).toInt32 = v) : qa_PW own cc nL pc (qp_c (.int v) (pc + 3)) := by
  intro nm ret st bs p l e R s m args below meth c H locs cells slots Q B hst L S z ls hg hl k
  obtain ⟨hx, hb, -⟩ := B
  cases hg
  exact lv_sipush hx hb hd hv (k ls hl)
theorem qs_lconst {own : String} {cc : ByteArray} {nL pc : Nat} {k : Fin 2} {v : Int64} (hd : decode cc pc = .ok (.lconst k, 1)) (hv : Int64.ofNat k = v) : qa_PW own cc nL pc (qp_c (.long v) (pc + 1)) := by
  intro nm ret st bs p l e R s m args below meth c H locs cells slots Q B hst L S z ls hg hl k
  obtain ⟨hx, hb, -⟩ := B
  cases hg
  exact lv_lconst hx hb hd hv (k ls hl)
theorem qs_null {own : String} {cc : ByteArray} {nL pc : Nat} (hd : decode cc pc = .ok (.aconst_null, 1)) : qa_PW own cc nL pc (qp_c .null (pc + 1)) := by
  intro nm ret st bs p l e R s m args below meth c H locs cells slots Q B hst L S z ls hg hl k
  obtain ⟨hx, hb, -⟩ := B
  cases hg
  exact lv_null hx hb hd (k ls hl)
theorem qs_ldc {own : String} {cc : ByteArray} {nL pc : Nat} {i : Nat} {v : Int32} (hw : Cond.constant own i v ∈ qa_GW) (hd : decode cc pc = .ok (.ldc i, 2)) : qa_PW own cc nL pc (qp_c (.int v) (pc + 2)) := by
  intro nm ret st bs p l e R s m args below meth c H locs cells slots Q B hst L S z ls hg hl k
  obtain ⟨hx, hb, hml, hown, hts, -⟩ := B
  cases hg
  exact lv_ldc hx hb hown (hts _ hw) hd (k ls hl)
theorem qs_ldcw {own : String} {cc : ByteArray} {nL pc : Nat} {i : Nat} {v : Int32} (hw : Cond.constant own i v ∈ qa_GW) (hd : decode cc pc = .ok (.ldc_w i, 3)) : qa_PW own cc nL pc (qp_c (.int v) (pc + 3)) := by
  intro nm ret st bs p l e R s m args below meth c H locs cells slots Q B hst L S z ls hg hl k
  obtain ⟨hx, hb, hml, hown, hts, -⟩ := B
  cases hg
  exact lv_ldcw hx hb hown (hts _ hw) hd (k ls hl)
theorem qs_ldc2 {own : String} {cc : ByteArray} {nL pc : Nat} {i : Nat} {v : Int64} (hw : Cond.constantLong own i v ∈ qa_GW) (hd : decode cc pc = .ok (.ldc2_w i, 3)) : qa_PW own cc nL pc (qp_c (.long v) (pc + 3)) := by
  intro nm ret st bs p l e R s m args below meth c H locs cells slots Q B hst L S z ls hg hl k
  obtain ⟨hx, hb, hml, hown, hts, -⟩ := B
  cases hg
  exact lv_ldc2 hx hb hown (hts _ hw) hd (k ls hl)
def qp_lcmp (n : Nat) : qa_P := fun L S => match S with
  | .long y :: .long x :: S => some (n, L, .int (lg_cmp x y) :: S)
  | _ => none
theorem qs_lcmp {own : String} {cc : ByteArray} {nL pc : Nat} (hd : decode cc pc = .ok (.lcmp, 1)) : qa_PW own cc nL pc (qp_lcmp (pc + 1)) := by
  intro nm ret st bs p l e R s m args below meth c H locs cells slots Q B hst L S z ls hg hl k
  obtain ⟨hx, hb, -⟩ := B
  unfold qp_lcmp at hg
  split at hg
  · cases hg
    exact W.lcmp hx hb hd (k ls hl)
  · cases hg
def qp_ild (i n : Nat) : qa_P := fun L S => match L[i]? with
  | some (.int x) => some (n, L, .int x :: S)
  | _ => none
theorem qs_iload {own : String} {cc : ByteArray} {nL pc : Nat} {i : Nat} (hd : decode cc pc = .ok (.iload i, 2)) : qa_PW own cc nL pc (qp_ild i (pc + 2)) := by
  intro nm ret st bs p l e R s m args below meth c H locs cells slots Q B hst L S z ls hg hl k
  obtain ⟨hx, hb, -⟩ := B
  unfold qp_ild at hg
  split at hg
  · rename_i x hv
    cases hg
    exact lv_iload hx hb hd (hl.at hv (fun z h => by cases h)) (k ls hl)
  · cases hg
theorem qs_iload_n {own : String} {cc : ByteArray} {nL pc : Nat} {q : Fin 4} {i : Nat} (hd : decode cc pc = .ok (.iload_n q, 1)) (hi : (q : Nat) = i) : qa_PW own cc nL pc (qp_ild i (pc + 1)) := by
  intro nm ret st bs p l e R s m args below meth c H locs cells slots Q B hst L S z ls hg hl k
  obtain ⟨hx, hb, -⟩ := B
  unfold qp_ild at hg
  split at hg
  · rename_i x hv
    cases hg
    exact lv_iload_n hx hb hd hi (hl.at hv (fun z h => by cases h)) (k ls hl)
  · cases hg
def qp_lld (i n : Nat) : qa_P := fun L S => match L[i]? with
  | some (.long x) => some (n, L, .long x :: S)
  | _ => none
theorem qs_lload {own : String} {cc : ByteArray} {nL pc : Nat} {i : Nat} (hd : decode cc pc = .ok (.lload i, 2)) : qa_PW own cc nL pc (qp_lld i (pc + 2)) := by
  intro nm ret st bs p l e R s m args below meth c H locs cells slots Q B hst L S z ls hg hl k
  obtain ⟨hx, hb, -⟩ := B
  unfold qp_lld at hg
  split at hg
  · rename_i x hv
    cases hg
    exact lv_lload hx hb hd (hl.at hv (fun z h => by cases h)) (k ls hl)
  · cases hg
theorem qs_lload_n {own : String} {cc : ByteArray} {nL pc : Nat} {q : Fin 4} {i : Nat} (hd : decode cc pc = .ok (.lload_n q, 1)) (hi : (q : Nat) = i) : qa_PW own cc nL pc (qp_lld i (pc + 1)) := by
  intro nm ret st bs p l e R s m args below meth c H locs cells slots Q B hst L S z ls hg hl k
  obtain ⟨hx, hb, -⟩ := B
  unfold qp_lld at hg
  split at hg
  · rename_i x hv
    cases hg
    exact lv_lload_n hx hb hd hi (hl.at hv (fun z h => by cases h)) (k ls hl)
  · cases hg
def qp_ald (i n : Nat) : qa_P := fun L S => match L[i]? with
  | some (.ref x) => some (n, L, .ref x :: S)
  | some .null => some (n, L, .null :: S)
  | _ => none
theorem qs_aload {own : String} {cc : ByteArray} {nL pc : Nat} {i : Nat} (hd : decode cc pc = .ok (.aload i, 2)) : qa_PW own cc nL pc (qp_ald i (pc + 2)) := by
  intro nm ret st bs p l e R s m args below meth c H locs cells slots Q B hst L S z ls hg hl k
  obtain ⟨hx, hb, -⟩ := B
  unfold qp_ald at hg
  split at hg
  · rename_i x hv
    cases hg
    exact lv_aload hx hb hd (hl.at hv (fun z h => by cases h)) (k ls hl)
  · rename_i hv
    cases hg
    exact lv_aloadN hx hb hd (hl.at hv (fun z h => by cases h)) (k ls hl)
  · cases hg
theorem qs_aload_n {own : String} {cc : ByteArray} {nL pc : Nat} {q : Fin 4} {i : Nat} (hd : decode cc pc = .ok (.aload_n q, 1)) (hi : (q : Nat) = i) : qa_PW own cc nL pc (qp_ald i (pc + 1)) := by
  intro nm ret st bs p l e R s m args below meth c H locs cells slots Q B hst L S z ls hg hl k
  obtain ⟨hx, hb, -⟩ := B
  unfold qp_ald at hg
  split at hg
  · rename_i x hv
    cases hg
    exact lv_aload_n hx hb hd hi (hl.at hv (fun z h => by cases h)) (k ls hl)
  · rename_i hv
    cases hg
    exact lv_aload_nN hx hb hd hi (hl.at hv (fun z h => by cases h)) (k ls hl)
  · cases hg
def qp_ist (i n : Nat) : qa_P := fun L S => match S with
  | .int x :: S => some (n, qa_s1 i (.int x) L, S)
  | _ => none
theorem qs_istore {own : String} {cc : ByteArray} {nL pc : Nat} {i : Nat} (hd : decode cc pc = .ok (.istore i, 2)) (hn : i < nL) : qa_PW own cc nL pc (qp_ist i (pc + 2)) := by
  intro nm ret st bs p l e R s m args below meth c H locs cells slots Q B hst L S z ls hg hl k
  obtain ⟨hx, hb, -⟩ := B
  unfold qp_ist at hg
  split at hg
  · cases hg
    exact lv_istore hx hb hd hl.has hn rfl (fun ls' h => k ls' (qa_L.s1 h))
  · cases hg
theorem qs_istore_n {own : String} {cc : ByteArray} {nL pc : Nat} {q : Fin 4} {i : Nat} (hd : decode cc pc = .ok (.istore_n q, 1)) (hi : (q : Nat) = i) (hn : i < nL) : qa_PW own cc nL pc (qp_ist i (pc + 1)) := by
  intro nm ret st bs p l e R s m args below meth c H locs cells slots Q B hst L S z ls hg hl k
  obtain ⟨hx, hb, -⟩ := B
  unfold qp_ist at hg
  split at hg
  · cases hg
    exact lv_istore_n hx hb hd hi hl.has hn rfl (fun ls' h => k ls' (qa_L.s1 h))
  · cases hg
def qp_lst (i n : Nat) : qa_P := fun L S => match S with
  | .long x :: S => some (n, qa_s2 i (.long x) L, S)
  | _ => none
theorem qs_lstore {own : String} {cc : ByteArray} {nL pc : Nat} {i : Nat} (hd : decode cc pc = .ok (.lstore i, 2)) (hn : i + 1 < nL) : qa_PW own cc nL pc (qp_lst i (pc + 2)) := by
  intro nm ret st bs p l e R s m args below meth c H locs cells slots Q B hst L S z ls hg hl k
  obtain ⟨hx, hb, -⟩ := B
  unfold qp_lst at hg
  split at hg
  · cases hg
    exact lv_lstore hx hb hd hl.has hn rfl (fun ls' h => k ls' (qa_L.s2 h))
  · cases hg
theorem qs_lstore_n {own : String} {cc : ByteArray} {nL pc : Nat} {q : Fin 4} {i : Nat} (hd : decode cc pc = .ok (.lstore_n q, 1)) (hi : (q : Nat) = i) (hn : i + 1 < nL) : qa_PW own cc nL pc (qp_lst i (pc + 1)) := by
  intro nm ret st bs p l e R s m args below meth c H locs cells slots Q B hst L S z ls hg hl k
  obtain ⟨hx, hb, -⟩ := B
  unfold qp_lst at hg
  split at hg
  · cases hg
    exact lv_lstore_n hx hb hd hi hl.has hn rfl (fun ls' h => k ls' (qa_L.s2 h))
  · cases hg
def qp_ast (i n : Nat) : qa_P := fun L S => match S with
  | .ref x :: S => some (n, qa_s1 i (.ref x) L, S)
  | .null :: S => some (n, qa_s1 i .null L, S)
  | _ => none
theorem qs_astore {own : String} {cc : ByteArray} {nL pc : Nat} {i : Nat} (hd : decode cc pc = .ok (.astore i, 2)) (hn : i < nL) : qa_PW own cc nL pc (qp_ast i (pc + 2)) := by
  intro nm ret st bs p l e R s m args below meth c H locs cells slots Q B hst L S z ls hg hl k
  obtain ⟨hx, hb, -⟩ := B
  unfold qp_ast at hg
  split at hg
  · cases hg
    exact lv_astore hx hb hd hl.has hn rfl (fun ls' h => k ls' (qa_L.s1 h))
  · cases hg
    exact lv_astoreN hx hb hd hl.has hn rfl (fun ls' h => k ls' (qa_L.s1 h))
  · cases hg
theorem qs_astore_n {own : String} {cc : ByteArray} {nL pc : Nat} {q : Fin 4} {i : Nat} (hd : decode cc pc = .ok (.astore_n q, 1)) (hi : (q : Nat) = i) (hn : i < nL) : qa_PW own cc nL pc (qp_ast i (pc + 1)) := by
  intro nm ret st bs p l e R s m args below meth c H locs cells slots Q B hst L S z ls hg hl k
  obtain ⟨hx, hb, -⟩ := B
  unfold qp_ast at hg
  split at hg
  · cases hg
    exact lv_astore_n hx hb hd hi hl.has hn rfl (fun ls' h => k ls' (qa_L.s1 h))
  · cases hg
    exact lv_astore_nN hx hb hd hi hl.has hn rfl (fun ls' h => k ls' (qa_L.s1 h))
  · cases hg
def qp_inc (i : Nat) (v : Int32) (n : Nat) : qa_P := fun L S => match L[i]? with
  | some (.int x) => some (n, qa_s1 i (.int (x + v)) L, S)
  | _ => none
theorem qs_iinc {own : String} {cc : ByteArray} {nL pc : Nat} {i : Nat} {k : Int} {v : Int32} (hd : decode cc pc = .ok (.iinc i k, 3)) (hv : Int32.ofInt k = v) (hn : i < nL) : qa_PW own cc nL pc (qp_inc i v (pc + 3)) := by
  intro nm ret st bs p l e R s m args below meth c H locs cells slots Q B hst L S z ls hg hl k
  obtain ⟨hx, hb, -⟩ := B
  unfold qp_inc at hg
  split at hg
  · rename_i x hx1
    cases hg
    obtain ⟨j, hj⟩ := List.getElem?_of_mem (qa_lv_in (ca := qa_ca st bs) hx1 (fun z h => by cases h))
    exact lv_iinc hx hb hd hl.has hj (by rw [hv]) hn rfl (fun ls' h => k ls' (qa_L.s1 h))
  · cases hg
def qp_dup (n : Nat) : qa_P := fun L S => match S with
  | v :: S => if v.category = 1 then some (n, L, v :: v :: S) else none
  | _ => none
theorem qs_dup {own : String} {cc : ByteArray} {nL pc : Nat} (hd : decode cc pc = .ok (.dup, 1)) : qa_PW own cc nL pc (qp_dup (pc + 1)) := by
  intro nm ret st bs p l e R s m args below meth c H locs cells slots Q B hst L S z ls hg hl k
  obtain ⟨hx, hb, -⟩ := B
  unfold qp_dup at hg
  split at hg
  · split at hg
    · rename_i hc
      cases hg
      exact lv_dup hx hb hd ((qa_cat _ _).trans hc) (k ls hl)
    · cases hg
  · cases hg
def qp_dup2 (n : Nat) : qa_P := fun L S => match S with
  | v :: u :: S => if v.category = 1 ∧ u.category = 1 then some (n, L, v :: u :: v :: u :: S) else none
  | _ => none
theorem qs_dup2 {own : String} {cc : ByteArray} {nL pc : Nat} (hd : decode cc pc = .ok (.dup2, 1)) : qa_PW own cc nL pc (qp_dup2 (pc + 1)) := by
  intro nm ret st bs p l e R s m args below meth c H locs cells slots Q B hst L S z ls hg hl k
  obtain ⟨hx, hb, -⟩ := B
  unfold qp_dup2 at hg
  split at hg
  · split at hg
    · rename_i hc
      cases hg
      exact lv_dup2_11 hx hb hd ((qa_cat _ _).trans hc.1) ((qa_cat _ _).trans hc.2) (k ls hl)
    · cases hg
  · cases hg
def qp_pop (n : Nat) : qa_P := fun L S => match S with
  | v :: S => if v.category = 1 then some (n, L, S) else none
  | _ => none
theorem qs_pop {own : String} {cc : ByteArray} {nL pc : Nat} (hd : decode cc pc = .ok (.pop, 1)) : qa_PW own cc nL pc (qp_pop (pc + 1)) := by
  intro nm ret st bs p l e R s m args below meth c H locs cells slots Q B hst L S z ls hg hl k
  obtain ⟨hx, hb, -⟩ := B
  unfold qp_pop at hg
  split at hg
  · split at hg
    · rename_i hc
      cases hg
      exact lv_pop hx hb hd ((qa_cat _ _).trans hc) (k ls hl)
    · cases hg
  · cases hg
def qp_goto (n : Nat) : qa_P := fun L S => some (n, L, S)
theorem qs_goto {own : String} {cc : ByteArray} {nL pc : Nat} {off : Int} {t : Nat} (hd : decode cc pc = .ok (.goto off, 3)) (ht : (pc : Int) + off = (t : Int)) : qa_PW own cc nL pc (qp_goto t) := by
  intro nm ret st bs p l e R s m args below meth c H locs cells slots Q B hst L S z ls hg hl k
  obtain ⟨hx, hb, -⟩ := B
  cases hg
  exact lv_goto hx hb hd ht (k ls hl)
def qp_ifeq (t n : Nat) : qa_P := fun L S => match S with
  | .int x :: S => if x = 0 then some (t, L, S) else some (n, L, S)
  | _ => none
theorem qs_ifeq {own : String} {cc : ByteArray} {nL pc : Nat} {off : Int} {t : Nat} (hd : decode cc pc = .ok (.ifCond .eq off, 3)) (ht : (pc : Int) + off = (t : Int)) : qa_PW own cc nL pc (qp_ifeq t (pc + 3)) := by
  intro nm ret st bs p l e R s m args below meth c H locs cells slots Q B hst L S z ls hg hl k
  obtain ⟨hx, hb, -⟩ := B
  unfold qp_ifeq at hg
  split at hg
  · refine lv_if_eq hx hb hd ht (fun q => ?_) (fun q => ?_)
    · rw [if_pos q] at hg
      cases hg
      exact k ls hl
    · rw [if_neg q] at hg
      cases hg
      exact k ls hl
  · cases hg
def qp_ifne (t n : Nat) : qa_P := fun L S => match S with
  | .int x :: S => if x = 0 then some (n, L, S) else some (t, L, S)
  | _ => none
theorem qs_ifne {own : String} {cc : ByteArray} {nL pc : Nat} {off : Int} {t : Nat} (hd : decode cc pc = .ok (.ifCond .ne off, 3)) (ht : (pc : Int) + off = (t : Int)) : qa_PW own cc nL pc (qp_ifne t (pc + 3)) := by
  intro nm ret st bs p l e R s m args below meth c H locs cells slots Q B hst L S z ls hg hl k
  obtain ⟨hx, hb, -⟩ := B
  unfold qp_ifne at hg
  split at hg
  · refine lv_if_ne hx hb hd ht (fun q => ?_) (fun q => ?_)
    · rw [if_neg q] at hg
      cases hg
      exact k ls hl
    · rw [if_pos q] at hg
      cases hg
      exact k ls hl
  · cases hg
def qp_iflt (t n : Nat) : qa_P := fun L S => match S with
  | .int x :: S => if x < 0 then some (t, L, S) else some (n, L, S)
  | _ => none
theorem qs_iflt {own : String} {cc : ByteArray} {nL pc : Nat} {off : Int} {t : Nat} (hd : decode cc pc = .ok (.ifCond .lt off, 3)) (ht : (pc : Int) + off = (t : Int)) : qa_PW own cc nL pc (qp_iflt t (pc + 3)) := by
  intro nm ret st bs p l e R s m args below meth c H locs cells slots Q B hst L S z ls hg hl k
  obtain ⟨hx, hb, -⟩ := B
  unfold qp_iflt at hg
  split at hg
  · refine lv_if_lt hx hb hd ht (fun q => ?_) (fun q => ?_)
    · rw [if_pos q] at hg
      cases hg
      exact k ls hl
    · rw [if_neg q] at hg
      cases hg
      exact k ls hl
  · cases hg
def qp_ifge (t n : Nat) : qa_P := fun L S => match S with
  | .int x :: S => if 0 ≤ x then some (t, L, S) else some (n, L, S)
  | _ => none
theorem qs_ifge {own : String} {cc : ByteArray} {nL pc : Nat} {off : Int} {t : Nat} (hd : decode cc pc = .ok (.ifCond .ge off, 3)) (ht : (pc : Int) + off = (t : Int)) : qa_PW own cc nL pc (qp_ifge t (pc + 3)) := by
  intro nm ret st bs p l e R s m args below meth c H locs cells slots Q B hst L S z ls hg hl k
  obtain ⟨hx, hb, -⟩ := B
  unfold qp_ifge at hg
  split at hg
  · refine lv_if_ge hx hb hd ht (fun q => ?_) (fun q => ?_)
    · rw [if_pos q] at hg
      cases hg
      exact k ls hl
    · rw [if_neg q] at hg
      cases hg
      exact k ls hl
  · cases hg
def qp_ifgt (t n : Nat) : qa_P := fun L S => match S with
  | .int x :: S => if 0 < x then some (t, L, S) else some (n, L, S)
  | _ => none
theorem qs_ifgt {own : String} {cc : ByteArray} {nL pc : Nat} {off : Int} {t : Nat} (hd : decode cc pc = .ok (.ifCond .gt off, 3)) (ht : (pc : Int) + off = (t : Int)) : qa_PW own cc nL pc (qp_ifgt t (pc + 3)) := by
  intro nm ret st bs p l e R s m args below meth c H locs cells slots Q B hst L S z ls hg hl k
  obtain ⟨hx, hb, -⟩ := B
  unfold qp_ifgt at hg
  split at hg
  · refine lv_if_gt hx hb hd ht (fun q => ?_) (fun q => ?_)
    · rw [if_pos q] at hg
      cases hg
      exact k ls hl
    · rw [if_neg q] at hg
      cases hg
      exact k ls hl
  · cases hg
def qp_ifle (t n : Nat) : qa_P := fun L S => match S with
  | .int x :: S => if x ≤ 0 then some (t, L, S) else some (n, L, S)
  | _ => none
theorem qs_ifle {own : String} {cc : ByteArray} {nL pc : Nat} {off : Int} {t : Nat} (hd : decode cc pc = .ok (.ifCond .le off, 3)) (ht : (pc : Int) + off = (t : Int)) : qa_PW own cc nL pc (qp_ifle t (pc + 3)) := by
  intro nm ret st bs p l e R s m args below meth c H locs cells slots Q B hst L S z ls hg hl k
  obtain ⟨hx, hb, -⟩ := B
  unfold qp_ifle at hg
  split at hg
  · refine lv_if_le hx hb hd ht (fun q => ?_) (fun q => ?_)
    · rw [if_pos q] at hg
      cases hg
      exact k ls hl
    · rw [if_neg q] at hg
      cases hg
      exact k ls hl
  · cases hg
def qp_iceq (t n : Nat) : qa_P := fun L S => match S with
  | .int y :: .int x :: S => if x = y then some (t, L, S) else some (n, L, S)
  | _ => none
theorem qs_iceq {own : String} {cc : ByteArray} {nL pc : Nat} {off : Int} {t : Nat} (hd : decode cc pc = .ok (.if_icmp .eq off, 3)) (ht : (pc : Int) + off = (t : Int)) : qa_PW own cc nL pc (qp_iceq t (pc + 3)) := by
  intro nm ret st bs p l e R s m args below meth c H locs cells slots Q B hst L S z ls hg hl k
  obtain ⟨hx, hb, -⟩ := B
  unfold qp_iceq at hg
  split at hg
  · refine lv_icmp_eq hx hb hd ht (fun q => ?_) (fun q => ?_)
    · rw [if_pos q] at hg
      cases hg
      exact k ls hl
    · rw [if_neg q] at hg
      cases hg
      exact k ls hl
  · cases hg
def qp_icne (t n : Nat) : qa_P := fun L S => match S with
  | .int y :: .int x :: S => if x = y then some (n, L, S) else some (t, L, S)
  | _ => none
theorem qs_icne {own : String} {cc : ByteArray} {nL pc : Nat} {off : Int} {t : Nat} (hd : decode cc pc = .ok (.if_icmp .ne off, 3)) (ht : (pc : Int) + off = (t : Int)) : qa_PW own cc nL pc (qp_icne t (pc + 3)) := by
  intro nm ret st bs p l e R s m args below meth c H locs cells slots Q B hst L S z ls hg hl k
  obtain ⟨hx, hb, -⟩ := B
  unfold qp_icne at hg
  split at hg
  · refine lv_icmp_ne hx hb hd ht (fun q => ?_) (fun q => ?_)
    · rw [if_neg q] at hg
      cases hg
      exact k ls hl
    · rw [if_pos q] at hg
      cases hg
      exact k ls hl
  · cases hg
def qp_iclt (t n : Nat) : qa_P := fun L S => match S with
  | .int y :: .int x :: S => if x < y then some (t, L, S) else some (n, L, S)
  | _ => none
theorem qs_iclt {own : String} {cc : ByteArray} {nL pc : Nat} {off : Int} {t : Nat} (hd : decode cc pc = .ok (.if_icmp .lt off, 3)) (ht : (pc : Int) + off = (t : Int)) : qa_PW own cc nL pc (qp_iclt t (pc + 3)) := by
  intro nm ret st bs p l e R s m args below meth c H locs cells slots Q B hst L S z ls hg hl k
  obtain ⟨hx, hb, -⟩ := B
  unfold qp_iclt at hg
  split at hg
  · refine lv_icmp_lt hx hb hd ht (fun q => ?_) (fun q => ?_)
    · rw [if_pos q] at hg
      cases hg
      exact k ls hl
    · rw [if_neg q] at hg
      cases hg
      exact k ls hl
  · cases hg
def qp_icge (t n : Nat) : qa_P := fun L S => match S with
  | .int y :: .int x :: S => if y ≤ x then some (t, L, S) else some (n, L, S)
  | _ => none
theorem qs_icge {own : String} {cc : ByteArray} {nL pc : Nat} {off : Int} {t : Nat} (hd : decode cc pc = .ok (.if_icmp .ge off, 3)) (ht : (pc : Int) + off = (t : Int)) : qa_PW own cc nL pc (qp_icge t (pc + 3)) := by
  intro nm ret st bs p l e R s m args below meth c H locs cells slots Q B hst L S z ls hg hl k
  obtain ⟨hx, hb, -⟩ := B
  unfold qp_icge at hg
  split at hg
  · refine lv_icmp_ge hx hb hd ht (fun q => ?_) (fun q => ?_)
    · rw [if_pos q] at hg
      cases hg
      exact k ls hl
    · rw [if_neg q] at hg
      cases hg
      exact k ls hl
  · cases hg
def qp_icgt (t n : Nat) : qa_P := fun L S => match S with
  | .int y :: .int x :: S => if y < x then some (t, L, S) else some (n, L, S)
  | _ => none
theorem qs_icgt {own : String} {cc : ByteArray} {nL pc : Nat} {off : Int} {t : Nat} (hd : decode cc pc = .ok (.if_icmp .gt off, 3)) (ht : (pc : Int) + off = (t : Int)) : qa_PW own cc nL pc (qp_icgt t (pc + 3)) := by
  intro nm ret st bs p l e R s m args below meth c H locs cells slots Q B hst L S z ls hg hl k
  obtain ⟨hx, hb, -⟩ := B
  unfold qp_icgt at hg
  split at hg
  · refine lv_icmp_gt hx hb hd ht (fun q => ?_) (fun q => ?_)
    · rw [if_pos q] at hg
      cases hg
      exact k ls hl
    · rw [if_neg q] at hg
      cases hg
      exact k ls hl
  · cases hg
def qp_icle (t n : Nat) : qa_P := fun L S => match S with
  | .int y :: .int x :: S => if x ≤ y then some (t, L, S) else some (n, L, S)
  | _ => none
theorem qs_icle {own : String} {cc : ByteArray} {nL pc : Nat} {off : Int} {t : Nat} (hd : decode cc pc = .ok (.if_icmp .le off, 3)) (ht : (pc : Int) + off = (t : Int)) : qa_PW own cc nL pc (qp_icle t (pc + 3)) := by
  intro nm ret st bs p l e R s m args below meth c H locs cells slots Q B hst L S z ls hg hl k
  obtain ⟨hx, hb, -⟩ := B
  unfold qp_icle at hg
  split at hg
  · refine lv_icmp_le hx hb hd ht (fun q => ?_) (fun q => ?_)
    · rw [if_pos q] at hg
      cases hg
      exact k ls hl
    · rw [if_neg q] at hg
      cases hg
      exact k ls hl
  · cases hg
def qp_ifnull (t n : Nat) : qa_P := fun L S => match S with
  | .ref _ :: S => some (n, L, S)
  | .null :: S => some (t, L, S)
  | _ => none
theorem qs_ifnull {own : String} {cc : ByteArray} {nL pc : Nat} {off : Int} {t : Nat} (hd : decode cc pc = .ok (.ifnull off, 3)) (ht : (pc : Int) + off = (t : Int)) : qa_PW own cc nL pc (qp_ifnull t (pc + 3)) := by
  intro nm ret st bs p l e R s m args below meth c H locs cells slots Q B hst L S z ls hg hl k
  obtain ⟨hx, hb, -⟩ := B
  unfold qp_ifnull at hg
  split at hg
  · cases hg
    exact lv_ifnull hx hb hd (k ls hl)
  · cases hg
    exact lv_ifnullN hx hb hd ht (k ls hl)
  · cases hg
def qp_ifnonnull (t n : Nat) : qa_P := fun L S => match S with
  | .ref _ :: S => some (t, L, S)
  | .null :: S => some (n, L, S)
  | _ => none
theorem qs_ifnonnull {own : String} {cc : ByteArray} {nL pc : Nat} {off : Int} {t : Nat} (hd : decode cc pc = .ok (.ifnonnull off, 3)) (ht : (pc : Int) + off = (t : Int)) : qa_PW own cc nL pc (qp_ifnonnull t (pc + 3)) := by
  intro nm ret st bs p l e R s m args below meth c H locs cells slots Q B hst L S z ls hg hl k
  obtain ⟨hx, hb, -⟩ := B
  unfold qp_ifnonnull at hg
  split at hg
  · cases hg
    exact lv_ifnonnull hx hb hd ht (k ls hl)
  · cases hg
    exact lv_ifnonnullN hx hb hd (k ls hl)
  · cases hg
/-- constants (places below 23) and null are told apart -/
def qa_id : Value → Option (Option Nat)
  | .null => some none
  | .ref a => if a < 23 then some (some a) else none
  | _ => none
theorem qa_id_v {st : Nat → Nat} {bs : Nat} {v : Value} {r : Option Nat} (h : qa_id v = some r) : qa_v (qa_ca st bs) v = va_rf (r.map st) ∧ ∀ i, r = some i → i < 23 := by
  unfold qa_id at h
  split at h
  · cases h
    exact ⟨rfl, fun i h => by cases h⟩
  · split at h
    · rename_i ha
      cases h
      refine ⟨?_, fun i h => by cases h; exact ha⟩
      show Value.ref (qa_ca st bs _) = Value.ref (st _)
      unfold qa_ca
      rw [if_pos (Nat.lt_of_lt_of_le ha (by decide))]
    · cases h
  · cases h
theorem qa_id_eq {st : Nat → Nat} (hst : ∀ i j, i < 23 → j < 23 → st i = st j → i = j) {r q : Option Nat} (hr : ∀ i, r = some i → i < 23) (hq : ∀ i, q = some i → i < 23) : r.map st = q.map st ↔ r = q := by
  refine ⟨fun h => ?_, fun h => by rw [h]⟩
  cases r with
  | none =>
    cases q with
    | none => rfl
    | some b => cases h
  | some a =>
    cases q with
    | none => cases h
    | some b => rw [hst a b (hr a rfl) (hq b rfl) (Option.some.inj h)]
def qp_aceq (t n : Nat) : qa_P := fun L S => match S with
  | y :: x :: S => match qa_id x, qa_id y with
    | some r, some q => if r = q then some (t, L, S) else some (n, L, S)
    | _, _ => none
  | _ => none
theorem qs_aceq {own : String} {cc : ByteArray} {nL pc : Nat} {off : Int} {t : Nat} (hd : decode cc pc = .ok (.if_acmp .eq off, 3)) (ht : (pc : Int) + off = (t : Int)) : qa_PW own cc nL pc (qp_aceq t (pc + 3)) := by
  intro nm ret st bs p l e R s m args below meth c H locs cells slots Q B hst L S z ls hg hl k
  obtain ⟨hx, hb, -⟩ := B
  unfold qp_aceq at hg
  split at hg
  · split at hg
    · rename_i r q hr hq
      have h1 := qa_id_v (st := st) (bs := bs) hr
      have h2 := qa_id_v (st := st) (bs := bs) hq
      rw [List.map_cons, List.map_cons, h1.1, h2.1]
      refine lv_acmp_eq hx hb hd ht (fun w => ?_) (fun w => ?_)
      · rw [if_pos ((qa_id_eq hst h1.2 h2.2).mp w)] at hg
        cases hg
        exact k ls hl
      · rw [if_neg (fun z => w ((qa_id_eq hst h1.2 h2.2).mpr z))] at hg
        cases hg
        exact k ls hl
    · cases hg
  · cases hg
def qp_acne (t n : Nat) : qa_P := fun L S => match S with
  | y :: x :: S => match qa_id x, qa_id y with
    | some r, some q => if r = q then some (n, L, S) else some (t, L, S)
    | _, _ => none
  | _ => none
theorem qs_acne {own : String} {cc : ByteArray} {nL pc : Nat} {off : Int} {t : Nat} (hd : decode cc pc = .ok (.if_acmp .ne off, 3)) (ht : (pc : Int) + off = (t : Int)) : qa_PW own cc nL pc (qp_acne t (pc + 3)) := by
  intro nm ret st bs p l e R s m args below meth c H locs cells slots Q B hst L S z ls hg hl k
  obtain ⟨hx, hb, -⟩ := B
  unfold qp_acne at hg
  split at hg
  · split at hg
    · rename_i r q hr hq
      have h1 := qa_id_v (st := st) (bs := bs) hr
      have h2 := qa_id_v (st := st) (bs := bs) hq
      rw [List.map_cons, List.map_cons, h1.1, h2.1]
      refine lv_acmp_ne hx hb hd ht (fun w => ?_) (fun w => ?_)
      · rw [if_neg (fun z => w ((qa_id_eq hst h1.2 h2.2).mpr z))] at hg
        cases hg
        exact k ls hl
      · rw [if_pos ((qa_id_eq hst h1.2 h2.2).mp w)] at hg
        cases hg
        exact k ls hl
    · cases hg
  · cases hg
/-- switches: a list of values and targets, else the default -/
def qa_sw : List (Int32 × Nat) → Nat → Int32 → Nat
  | [], d, _ => d
  | q :: r, d, x => if x = q.1 then q.2 else qa_sw r d x
theorem qa_sw_at {d : Nat} {x : Int32} : ∀ {tb : List (Int32 × Nat)} (j : Nat) (v : Int32 × Nat), tb[j]? = some v → v.1 = x → (∀ i, i < j → ∀ u, tb[i]? = some u → u.1 ≠ x) → qa_sw tb d x = v.2
  | [], j, v, h, _, _ => by simp at h
  | q :: r, 0, v, h, e, _ => by
    cases h
    unfold qa_sw
    rw [if_pos e.symm]
  | q :: r, j + 1, v, h, e, hn => by
    unfold qa_sw
    rw [if_neg (fun z => hn 0 (by omega) q rfl z.symm)]
    exact qa_sw_at j v h e (fun i hi u hu => hn (i + 1) (by omega) u hu)
theorem qa_sw_no {d : Nat} {x : Int32} : ∀ {tb : List (Int32 × Nat)}, (∀ u ∈ tb, u.1 ≠ x) → qa_sw tb d x = d
  | [], _ => rfl
  | q :: r, h => by
    unfold qa_sw
    rw [if_neg (fun z => h q List.mem_cons_self z.symm)]
    exact qa_sw_no (fun u hu => h u (List.mem_cons_of_mem _ hu))
def qp_sw (tb : List (Int32 × Nat)) (d : Nat) : qa_P := fun L S => match S with
  | .int x :: S => some (qa_sw tb d x, L, S)
  | _ => none
theorem qs_table {own : String} {cc : ByteArray} {nL pc : Nat} {dflt lo hi : Int} {offs : Array Int} {len d : Nat} (tb : List (Int32 × Nat)) (hd : decode cc pc = .ok (.tableswitch dflt lo hi offs, len)) (hl0 : (tb.length : Int) = hi - lo + 1) (ht : (pc : Int) + dflt = (d : Int)) (hj : ∀ j, j < tb.length → ((tb.getD j (0, 0)).1).toInt = lo + j ∧ (offs[j]?).map (fun o => (pc : Int) + o) = some ((tb.getD j (0, 0)).2 : Int)) : qa_PW own cc nL pc (qp_sw tb d) := by
  intro nm ret st bs p l e R s m args below meth c H locs cells slots Q B hst L S z ls hg hl k
  obtain ⟨hx, hb, -⟩ := B
  unfold qp_sw at hg
  split at hg
  · rename_i x S'
    cases hg
    have hget : ∀ j u, tb[j]? = some u → tb.getD j (0, 0) = u ∧ j < tb.length := fun j u hu => ⟨by rw [List.getD_eq_getElem?_getD, hu]; rfl, (List.getElem?_eq_some_iff.mp hu).1⟩
    by_cases h1 : x.toInt < lo ∨ hi < x.toInt
    · have e1 : qa_sw tb d x = d := qa_sw_no (fun u hu z => by
        obtain ⟨j, hju⟩ := List.getElem?_of_mem hu
        obtain ⟨g1, g2⟩ := hget j u hju
        have := (hj j g2).1
        rw [g1, z] at this
        omega)
      rw [e1] at k
      exact lv_tableOut hx hb hd h1 ht (k ls hl)
    · have h2 : ¬ x.toInt < lo := fun q => h1 (Or.inl q)
      have h3 : ¬ hi < x.toInt := fun q => h1 (Or.inr q)
      obtain ⟨j, ej⟩ : ∃ j : Nat, x.toInt - lo = (j : Int) := ⟨(x.toInt - lo).toNat, by omega⟩
      have hjl : j < tb.length := by omega
      obtain ⟨g1, g2⟩ := hj j hjl
      have hat : tb[j]? = some (tb.getD j (0, 0)) := by rw [List.getD_eq_getElem?_getD, List.getElem?_eq_getElem hjl]; rfl
      have e1 : qa_sw tb d x = (tb.getD j (0, 0)).2 := qa_sw_at j _ hat (Int32.toInt_inj.mp (by rw [g1]; omega)) (fun i hi u hu z => by
        obtain ⟨q1, q2⟩ := hget i u hu
        have := (hj i q2).1
        rw [q1, z] at this
        omega)
      rw [e1] at k
      cases ho : offs[j]? with
      | none => rw [ho] at g2; cases g2
      | some off =>
        rw [ho] at g2
        exact lv_tableIn hx hb hd h2 h3 (by rw [show (x.toInt - lo).toNat = j by omega]; exact ho) (Option.some.inj g2) (k ls hl)
  · cases hg
