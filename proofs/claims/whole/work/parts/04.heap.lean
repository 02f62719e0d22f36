/-! the world behind the abstract heap, what stands outside of it, contracts, and the steps that read and write cells -/
def qa_A (bs : Nat) : Nat → Prop := fun q => bs ≤ q
def qa_R (D : va_G) (cA : Nat → ClassId) (st : Nat → Nat) (bs : Nat) (h : qa_H) (H : Heap) : Prop := va_P D qa_cl (qa_ws (qa_ca st bs) cA h) H
def qa_ty (cA : Nat → ClassId) : List (ClassId × FieldType) := [(cA 0, .int), (cA 1, .long), (cA 2, .boolean), (cA 3, .object "SistersBoard$State"), (cA 4, .object "SistersBoard$Image"), (cA 5, .object "SistersBoard$Word")]
def qw_E : String := "SistersBoard$Word"
def qw_d : String := "LSistersBoard$Word;"
def qw_nm : List String := ["WIRES", "SWITCH", "CHANGED", "SISTER", "VOW", "CALL", "STRICT", "SHIFT", "END", "TURN", "JAM", "FREE", "HOUR", "OR", "AND", "NOT", "JAMMED", "USED", "BY", "ON", "CALLS", "TURNS", "NUMBER"]
def qw_sp : List (List Nat) := [[119,105,114,101,115],[115,119,105,116,99,104],[99,104,97,110,103,101,100],[115,105,115,116,101,114],[118,111,119],[99,97,108,108],[115,116,114,105,99,116],[115,104,105,102,116],[101,110,100],[116,117,114,110],[106,97,109],[102,114,101,101],[104,111,117,114],[111,114],[97,110,100],[110,111,116],[106,97,109,109,101,100],[117,115,101,100],[98,121],[111,110],[99,97,108,108,115],[116,117,114,110,115],[110,117,109,98,101,114]]
def qw_let (i : Nat) : Int64 := Int64.ofNat (((qw_sp.getD i []).foldl (fun a c => a * 32 + (c - 96)) 0))
def qw_tx : List String := [" to ", " for ", " goes to "]
def qw_ix : List Nat := [286, 291, 293]
def qw_by : List (List Int32) := [[32, 116, 111, 32], [32, 102, 111, 114, 32], [32, 103, 111, 101, 115, 32, 116, 111, 32]]
/-- statics: declaring, name, descriptor, what they hold -/
def qw_Z : List (String × String × String × Value) := (List.range 23).map (fun i => (qw_E, qw_nm.getD i "", qw_d, Value.ref i)) ++ [(qw_E, "ALL", "[LSistersBoard$Word;", .ref 24), ("java/lang/String", "COMPACT_STRINGS", "Z", .int 1)]
/-- fields of objects that stand outside -/
def qw_F : List (Nat × String × String × String × Value) := (List.range 23).map (fun i => (i, qw_E, "letters", "J", Value.long (qw_let i))) ++ (List.range 3).map (fun j => (25 + j, "java/lang/String", "coder", "B", Value.int 0)) ++ (List.range 3).map (fun j => (25 + j, "java/lang/String", "value", "[B", Value.ref (30 + j)))
/-- arrays that stand outside -/
def qw_T : List (Nat × FieldType × List Value) := (24, FieldType.object "SistersBoard$Word", (List.range 23).map Value.ref) :: (List.range 3).map (fun j => (30 + j, FieldType.byte, (qw_by.getD j []).map Value.int))
def qw_O : List (Nat × String) := (List.range 23).map (fun i => (i, qw_E)) ++ (List.range 3).map (fun j => (25 + j, "java/lang/String"))
def qw_N : List (String × Nat × MethodName × String) := [("SistersBoard", 9, ⟨"SistersBoard$Tape", "<init>", "()V"⟩, "SistersBoard")]
def qa_Fm (bs : Nat) (U : State) : Prop := (va_Zq "jdk/internal/util/Preconditions" "SIOOBE_FORMATTER" "Ljava/util/function/BiFunction;" (qa_A bs) U U.heap ∧ vx_Zq Bundle.tN "UNASSIGNED_STACK" Bundle.steD (qa_A bs) U U.heap ∧ vx_Zq Bundle.tN "SUPPRESSED_SENTINEL" Bundle.listD (qa_A bs) U U.heap) ∧ ∃ sa : Nat, vk_R "SistersBoard" 147 "no such switch or question" sa U
theorem qa_Fm.move {bs : Nat} {s U : State} (h : qa_Fm bs s) (hW : s.WarmedH U.vm) (hk : ∀ a : Nat, a < s.heap.size → ¬ qa_A bs a → U.heap[a]? = s.heap[a]?) : qa_Fm bs U := by
  obtain ⟨⟨h1, h2, h3⟩, sa, h4⟩ := h
  exact ⟨⟨(va_Zq.moved hW.alike h1).kept hk, (vx_Zq.moved hW.alike h2).kept hk, (vx_Zq.moved hW.alike h3).kept hk⟩, sa, h4.warm hW⟩
def qa_Y (st : Nat → Nat) (bs : Nat) (U : State) : Prop :=
  (∀ q ∈ qw_Z, va_Z q.1 q.2.1 q.2.2.1 (qa_v (qa_ca st bs) q.2.2.2) (qa_A bs) U U.heap) ∧
  (∀ q ∈ qw_F, va_OF q.2.1 q.2.2.1 q.2.2.2.1 (qa_v (qa_ca st bs) q.2.2.2.2) (st q.1) (qa_A bs) U U.heap) ∧
  (∀ q ∈ qw_T, va_T q.2.1 (st q.1) q.2.2.length (fun j => qa_v (qa_ca st bs) (q.2.2.getD j .null)) (qa_A bs) U U.heap) ∧
  (∀ q ∈ qw_O, va_O q.2 (st q.1) (qa_A bs) U U.heap) ∧
  (∀ j, j < 3 → vk_R "SistersBoard" (qw_ix.getD j 0) (qw_tx.getD j "") (st (25 + j)) U) ∧
  (∀ i j, i < 23 → j < 23 → st i = st j → i = j) ∧ qa_Fm bs U
theorem qa_Y.move {st : Nat → Nat} {bs : Nat} {s U : State} (h : qa_Y st bs s) (hW : s.WarmedH U.vm) (hk : ∀ a : Nat, a < s.heap.size → ¬ qa_A bs a → U.heap[a]? = s.heap[a]?) : qa_Y st bs U :=
  ⟨fun q hq => ((h.1 q hq).moved hW.alike).kept hk, fun q hq => ((h.2.1 q hq).moved hW.alike).kept hk, fun q hq => ((h.2.2.1 q hq).moved hW.alike).kept hk, fun q hq => ((h.2.2.2.1 q hq).moved hW.alike).kept hk, fun j hj => (h.2.2.2.2.1 j hj).warm hW, h.2.2.2.2.2.1, h.2.2.2.2.2.2.move hW hk⟩
def qa_X (NW : List (String × Nat × MethodName × String)) (D : va_G) (cA : Nat → ClassId) (st : Nat → Nat) (bs : Nat) (U : State) : Prop :=
  va_K D qa_cl (qa_ty cA) U ∧ (∀ q ∈ NW, va_Nw (.methodLinkNest q.1 q.2.1 q.2.2.1 q.2.2.2) U) ∧ (∀ C ∈ ["SistersBoard$State", "SistersBoard$Image", "SistersBoard$Word"], va_AO C U) ∧ qa_Y st bs U
theorem qa_X.move {NW : List (String × Nat × MethodName × String)} {D : va_G} {cA : Nat → ClassId} {st : Nat → Nat} {bs : Nat} {s U : State} (h : qa_X NW D cA st bs s) (hW : s.WarmedH U.vm) (hk : ∀ a : Nat, a < s.heap.size → ¬ qa_A bs a → U.heap[a]? = s.heap[a]?) : qa_X NW D cA st bs U :=
  ⟨va_K.moved hW.alike h.1, fun q hq => (h.2.1 q hq).warmM hW, fun C hC => (h.2.2.1 C hC).moved hW.alike, h.2.2.2.move hW hk⟩
def qa_Pc (NW : List (String × Nat × MethodName × String)) (D : va_G) (cA : Nat → ClassId) (st : Nat → Nat) (bs : Nat) (av : List Value) (h : qa_H) : Array Value → State → Prop := fun v U => v = (av.map (qa_v (qa_ca st bs))).toArray ∧ qa_X NW D cA st bs U ∧ qa_R D cA st bs h U.heap ∧ bs ≤ U.heap.size ∧ U.heap.size ≤ bs + h.2.2.1
def qa_Q (D : va_G) (cA : Nat → ClassId) (st : Nat → Nat) (bs : Nat) (r : Option Value × qa_H) : Array Value → State → Outcome → State → Prop := fun _ s0 o t => o = .returned (r.1.map (qa_v (qa_ca st bs))) ∧ qa_R D cA st bs r.2 t.heap ∧ va_F (qa_A bs) s0 t
theorem qa_Pc_blind {NW : List (String × Nat × MethodName × String)} {D : va_G} {cA : Nat → ClassId} {st : Nat → Nat} {bs : Nat} {av : List Value} {h : qa_H} : FrameBlind (qa_Pc NW D cA st bs av h) := by
  intro a U g mk q
  obtain ⟨q1, q2, q3, q4⟩ := q
  exact ⟨q1, ⟨va_K.moved (u := U) (U := U.calling g mk a) (Vm.Alike.refl U.vm) q2.1, fun w hw => (q2.2.1 w hw).same rfl rfl, fun C hC => (q2.2.2.1 C hC).moved (Vm.Alike.refl U.vm), ⟨fun z hz => (q2.2.2.2.1 z hz).moved (U := U.calling g mk a) (Vm.Alike.refl U.vm), fun z hz => (q2.2.2.2.2.1 z hz).moved (U := U.calling g mk a) (Vm.Alike.refl U.vm), fun z hz => (q2.2.2.2.2.2.1 z hz).moved (U := U.calling g mk a) (Vm.Alike.refl U.vm), fun z hz => (q2.2.2.2.2.2.2.1 z hz).moved (U := U.calling g mk a) (Vm.Alike.refl U.vm), fun j hj => (q2.2.2.2.2.2.2.2.1 j hj).same rfl, q2.2.2.2.2.2.2.2.2.1, ⟨va_Zq.moved (U := U.calling g mk a) (Vm.Alike.refl U.vm) q2.2.2.2.2.2.2.2.2.2.1.1, vx_Zq.moved (U := U.calling g mk a) (Vm.Alike.refl U.vm) q2.2.2.2.2.2.2.2.2.2.1.2.1, vx_Zq.moved (U := U.calling g mk a) (Vm.Alike.refl U.vm) q2.2.2.2.2.2.2.2.2.2.1.2.2⟩, q2.2.2.2.2.2.2.2.2.2.2.choose, q2.2.2.2.2.2.2.2.2.2.2.choose_spec.same rfl⟩⟩, q3, q4⟩
/-- what a callee's number names: the method, its bytes, its locals, what it returns -/
abbrev qa_N : Type := Nat → MethodName × ByteArray × Nat × Option FieldType
def qa_mw (M : qa_N) (i : Nat) : List Cond := .code (M i).1 (M i).2.1 (M i).2.2.1 (M i).2.2.2 :: qa_GW
/-- callees that keep their contracts within the depth d -/
def qa_OK (M : qa_N) (NW : List (String × Nat × MethodName × String)) (l : Launch) (D : va_G) (cA : Nat → ClassId) (st : Nat → Nat) (bs d : Nat) (o : qa_O) : Prop :=
  ∀ (i : Nat) (av : List Value) (h : qa_H) (r : Option Value × qa_H), o i av h = some r → (h.2.2.1 ≤ r.2.2.2.1 ∧ h.2.2.2 ≤ r.2.2.2.2) ∧
    Met l (M i).1 (qa_mw M i) { frames := d, cells := r.2.2.2.1 - h.2.2.1, slots := r.2.2.2.2 - h.2.2.2, locals := 64 * d } (qa_Pc NW D cA st bs av h) (qa_Q D cA st bs r) (r.2.2.2.1 - h.2.2.1) (r.2.2.2.2 - h.2.2.2) (qa_A bs)
/-- a step of the method's own is sound at pc -/
def qa_SW (M : qa_N) (NW : List (String × Nat × MethodName × String)) (own nm : String) (cc : ByteArray) (nL : Nat) (ret : Option FieldType) (pc : Nat) (op : qa_Op) : Prop :=
  ∀ {o : qa_O} {d : Nat} {l : Launch} {D : va_G} {cA : Nat → ClassId} {st : Nat → Nat} {bs : Nat}, qa_OK M NW l D cA st bs d o →
    (∀ L S h y, op o L S h = some (.inl y) → h.2.2.1 ≤ y.2.2.2.2.2.1 ∧ h.2.2.2 ≤ y.2.2.2.2.2.2) ∧
    (∀ L S h r, op o L S h = some (.inr r) → r.2 = h) ∧
    ∀ {p : Program} {e : Env} {R : Room} {s : State} {m : MethodId} {args : Array Value} {below : List Frame} {meth : Method} {c : Code}, qa_B own nm cc nL ret p s m args meth c → qa_X NW D cA st bs s → bs ≤ s.heap.size → d + 1 ≤ R.frames → 64 * (d + 1) ≤ R.locals →
      ∀ {L S : List Value} {h : qa_H} {H : Heap} {locs : List Loc} {ls : Array Slot} {n0 s0 : Nat}, qa_R D cA st bs h H → qa_L (qa_ca st bs) nL L ls → va_S (qa_A bs) s.heap H locs → n0 ≤ h.2.2.1 → s0 ≤ h.2.2.2 → s.heap.size ≤ bs + n0 →
        (∀ (y : qa_F) (Q : State → Prop), op o L S h = some (.inl y) → y.2.2.2.2.2.1 - n0 ≤ R.cells → y.2.2.2.2.2.2 - s0 ≤ R.slots → (∀ H1 locs1 ls1, qa_R D cA st bs y.2.2.2 H1 → qa_L (qa_ca st bs) nL y.2.1 ls1 → va_S (qa_A bs) s.heap H1 locs1 → W p l e R s m args below meth c H1 locs1 (y.2.2.2.2.2.1 - n0) (y.2.2.2.2.2.2 - s0) Q (F0 m y.1 ls1 (y.2.2.1.map (qa_v (qa_ca st bs))))) → W p l e R s m args below meth c H locs (h.2.2.1 - n0) (h.2.2.2 - s0) Q (F0 m pc ls (S.map (qa_v (qa_ca st bs))))) ∧
        (∀ r, op o L S h = some (.inr r) → W p l e R s m args below meth c H locs (h.2.2.1 - n0) (h.2.2.2 - s0) (MQ below (qa_Q D cA st bs r) args s (h.2.2.1 - n0) (h.2.2.2 - s0) (qa_A bs)) (F0 m pc ls (S.map (qa_v (qa_ca st bs)))))
/-- steps of the frame alone -/
theorem qa_SW.p {M : qa_N} {NW : List (String × Nat × MethodName × String)} {own nm : String} {cc : ByteArray} {nL : Nat} {ret : Option FieldType} {pc : Nat} {g : qa_P} (hg : qa_PW own cc nL pc g) : qa_SW M NW own nm cc nL ret pc (qa_p g) := by
  intro o d l D cA st bs hO
  refine ⟨fun L S h y hy => ?_, fun L S h r hr => ?_, ?_⟩
  · unfold qa_p at hy
    split at hy
    · cases hy
    · cases hy
      exact ⟨Nat.le_refl _, Nat.le_refl _⟩
  · unfold qa_p at hr
    split at hr <;> cases hr
  · intro p e R s m args below meth c B hX hbs hfr hlo L S h H locs ls n0 s0 hR hL hS hn0 hs0 hup
    refine ⟨fun y Q hy hc hs k => ?_, fun r hr => ?_⟩
    · unfold qa_p at hy
      split at hy
      · cases hy
      · rename_i z hz
        cases hy
        exact hg B hX.2.2.2.2.2.2.2.2.1 L S z ls hz hL (fun ls1 hl1 => k H locs ls1 hR hl1 hS)
    · unfold qa_p at hr
      split at hr <;> cases hr
/-- steps of the frame that read what stands outside -/
def qa_PS (own : String) (cc : ByteArray) (nL pc : Nat) (g : qa_P) : Prop := ∀ {nm : String} {ret : Option FieldType} {st : Nat → Nat} {bs : Nat} {p : Program} {l : Launch} {e : Env} {R : Room} {s : State} {m : MethodId} {args : Array Value} {below : List Frame} {meth : Method} {c : Code} {H : Heap} {locs : List Loc} {cells slots : Nat} {Q : State → Prop}, qa_B own nm cc nL ret p s m args meth c → qa_Y st bs s → va_S (qa_A bs) s.heap H locs → ∀ (L S : List Value) (z : Nat × List Value × List Value) (ls : Array Slot), g L S = some z → qa_L (qa_ca st bs) nL L ls → (∀ ls1, qa_L (qa_ca st bs) nL z.2.1 ls1 → W p l e R s m args below meth c H locs cells slots Q (F0 m z.1 ls1 (z.2.2.map (qa_v (qa_ca st bs))))) → W p l e R s m args below meth c H locs cells slots Q (F0 m pc ls (S.map (qa_v (qa_ca st bs))))
theorem qa_SW.ps {M : qa_N} {NW : List (String × Nat × MethodName × String)} {own nm : String} {cc : ByteArray} {nL : Nat} {ret : Option FieldType} {pc : Nat} {g : qa_P} (hg : qa_PS own cc nL pc g) : qa_SW M NW own nm cc nL ret pc (qa_p g) := by
  intro o d l D cA st bs hO
  refine ⟨fun L S h y hy => ?_, fun L S h r hr => ?_, ?_⟩
  · unfold qa_p at hy
    split at hy
    · cases hy
    · cases hy
      exact ⟨Nat.le_refl _, Nat.le_refl _⟩
  · unfold qa_p at hr
    split at hr <;> cases hr
  · intro p e R s m args below meth c B hX hbs hfr hlo L S h H locs ls n0 s0 hR hL hS hn0 hs0 hup
    refine ⟨fun y Q hy hc hs k => ?_, fun r hr => ?_⟩
    · unfold qa_p at hy
      split at hy
      · cases hy
      · rename_i z hz
        cases hy
        exact hg B hX.2.2.2 hS L S z ls hz hL (fun ls1 hl1 => k H locs ls1 hR hl1 hS)
    · unfold qa_p at hr
      split at hr <;> cases hr
