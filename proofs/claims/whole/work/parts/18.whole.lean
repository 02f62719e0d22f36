/-! the law's walk out of its abstract run -/
def R_law : String := "SistersBoardLaw"
def lw_P (b : Addr) (xs : List Int32) (args : Array Value) (s : State) : Prop := args = #[.ref b] ∧ s.IntsAt b xs ∧ xs.length ≤ 384 ∧ (Jvm.Cond.and given_1 narrow_1).before args s = true
def lw_Q (_ : Array Value) (s : State) (o : Outcome) (t : State) : Prop := o = .returned (some (.int 1)) ∧ Framed s o t [] 600128 7301098
def lw_Z (below : List Frame) (a : Array Value) (s : State) : State → Prop := fun t => ∃ o, t.status = .running ∧ Ended t below o ∧ lw_Q a s o t
def lw_At (p : Program) (s : State) (m : MethodId) (meth : Method) (c : Code) (b L : Nat) (xs : Nat → Int32) : Prop :=
  p.tables.exec = Jvm.exec ∧ c.code = code ∧ meth.sig.returnType = ret ∧ c.maxLocals = 7 ∧ s.vm.findClass R_law = some m.cls ∧ (∀ w ∈ lw_tbl, w.before #[Value.ref b] s = true) ∧ va_X b L xs s s.heap ∧ b < s.heap.size ∧ meth.locks = false ∧ (Jvm.Cond.and given_1 narrow_1).before #[Value.ref b] s = true
theorem qa_runX_up {Ex : (Nat → Nat) → Nat → State → Prop} {M : qa_N} {NW : List (String × Nat × MethodName × String)} {own nm : String} {cc : ByteArray} {nL : Nat} {ret : Option FieldType} {cd : qa_Cd} (hcd : ∀ pc op, cd pc = some op → qa_SX Ex M NW own nm cc nL ret pc op) {o : qa_O} {d : Nat} {l : Launch} {D : va_G} {cA : Nat → ClassId} {st : Nat → Nat} {bs : Nat} (hO : qa_OK M NW l D cA st bs d o) (hl : l.stackTraces = false) : ∀ {k : Nat} {x : qa_F} {r : Option Value × qa_H}, qa_run o cd k x = some r → x.2.2.2.2.2.1 ≤ r.2.2.2.1 ∧ x.2.2.2.2.2.2 ≤ r.2.2.2.2
  | 0, x, r, h => by cases h
  | k + 1, x, r, h => by
    unfold qa_run at h
    cases hc : cd x.1 with
    | none => rw [hc] at h; cases h
    | some op =>
      rw [hc] at h
      dsimp only at h
      obtain ⟨m1, m2, -⟩ := hcd _ _ hc hO hl
      cases ho : op o x.2.1 x.2.2.1 x.2.2.2 with
      | none => rw [ho] at h; cases h
      | some z =>
        rw [ho] at h
        cases z with
        | inl y =>
          have h1 := m1 _ _ _ _ ho
          have h2 := qa_runX_up hcd hO hl h
          exact ⟨Nat.le_trans h1.1 h2.1, Nat.le_trans h1.2 h2.2⟩
        | inr q =>
          have h1 := m2 _ _ _ _ ho
          cases h
          rw [h1]
          exact ⟨Nat.le_refl _, Nat.le_refl _⟩
theorem qa_walkX {Ex : (Nat → Nat) → Nat → State → Prop} {M : qa_N} {NW : List (String × Nat × MethodName × String)} {own nm : String} {cc : ByteArray} {nL : Nat} {ret : Option FieldType} {cd : qa_Cd} (hcd : ∀ pc op, cd pc = some op → qa_SX Ex M NW own nm cc nL ret pc op) {o : qa_O} {d : Nat} {l : Launch} {D : va_G} {cA : Nat → ClassId} {st : Nat → Nat} {bs : Nat} (hO : qa_OK M NW l D cA st bs d o) (hl : l.stackTraces = false) {p : Program} {e : Env} {R : Room} {s : State} {m : MethodId} {args : Array Value} {below : List Frame} {meth : Method} {c : Code} (B : qa_B own nm cc nL ret p s m args meth c) (hX : qa_X NW D cA st bs s) (hE : Ex st bs s) (hbs : bs ≤ s.heap.size) (hfr : d + 8 ≤ R.frames) (hlo : 64 * (d + 8) ≤ R.locals) {n0 s0 : Nat} (hup : s.heap.size ≤ bs + n0) {r : Option Value × qa_H} (hcs : r.2.2.2.1 - n0 ≤ R.cells) (hss : r.2.2.2.2 - s0 ≤ R.slots) : ∀ {k : Nat} {x : qa_F}, qa_run o cd k x = some r → ∀ (H : Heap) (locs : List Loc) (ls : Array Slot), qa_R D cA st bs x.2.2.2 H → qa_L (qa_ca st bs) nL x.2.1 ls → va_S (qa_A bs) s.heap H locs → n0 ≤ x.2.2.2.2.2.1 → s0 ≤ x.2.2.2.2.2.2 → W p l e R s m args below meth c H locs (x.2.2.2.2.2.1 - n0) (x.2.2.2.2.2.2 - s0) (MQ below (qa_Q D cA st bs r) args s (r.2.2.2.1 - n0) (r.2.2.2.2 - s0) (qa_A bs)) (F0 m x.1 ls (x.2.2.1.map (qa_v (qa_ca st bs))))
  | 0, x, h => by cases h
  | k + 1, x, h => by
    intro H locs ls hR hL hS hn0 hs0
    unfold qa_run at h
    cases hc : cd x.1 with
    | none => rw [hc] at h; cases h
    | some op =>
      rw [hc] at h
      dsimp only at h
      obtain ⟨m1, m2, m3⟩ := hcd _ _ hc hO hl
      obtain ⟨g1, g2⟩ := m3 B hX hE hbs hfr hlo (L := x.2.1) (S := x.2.2.1) (h := x.2.2.2) hR hL hS hn0 hs0 hup (e := e) (below := below)
      cases ho : op o x.2.1 x.2.2.1 x.2.2.2 with
      | none => rw [ho] at h; cases h
      | some z =>
        rw [ho] at h
        cases z with
        | inl y =>
          have h1 := m1 _ _ _ _ ho
          have h2 := qa_runX_up hcd hO hl h
          refine g1 y _ ho (by omega) (by omega) (fun H1 locs1 ls1 hR1 hL1 hS1 => ?_)
          exact qa_walkX hcd hO hl B hX hE hbs hfr hlo hup hcs hss h H1 locs1 ls1 hR1 hL1 hS1 (by omega) (by omega)
        | inr q =>
          have h1 := m2 _ _ _ _ ho
          cases h
          have h3 := g2 _ ho
          rw [h1]
          exact h3
def qa_h0 (f : Nat → qa_C) : qa_H := (f, 0, 0, 0)
theorem qa_start_open {p : Program} {e : Env} {s : State} {m : MethodId} {below : List Frame} {meth : Method} {c : Code} (l : Launch) (hl : l.stackTraces = false) {b L : Nat} {xs : Nat → Int32} (C0 : lw_At p s m meth c b L xs) (hlev : ∀ nm, qa_SX (qa_Sc L xs) qm qm_nw "SistersBoardLaw" nm code 7 (some .boolean) 346 (qh_lev 349)) {d : Nat} (hd : d ≤ 1000) {hE : qa_H} {f : Nat → qa_C} (hrun : qa_lm (qe d) (qa_cd (qc_law L xs)) (0, qa_ent 7 [.ref 40], [], qa_h0 f) = some (some (.int 1), hE)) (hc : hE.2.2.1 ≤ 600128) (hs : hE.2.2.2 ≤ 7301098) : W p l e room_1 s m #[Value.ref b] below meth c s.heap [] 0 0 (lw_Z below #[Value.ref b] s) (entryFrame m ([Value.ref b] : List Value).toArray 7) := by
  obtain ⟨hx, hb, hr, hml, hown, hts, hX, hbl, hlocks, hgv⟩ := C0
  obtain ⟨D, cA, st, hXX, h40⟩ := qb_start hts hgv b
  obtain ⟨k, hk⟩ := qa_lm_run hrun
  have hcd : ∀ pc op, qa_cd (qc_law L xs) pc = some op → qa_SX (qa_Sc L xs) qm qm_nw "SistersBoardLaw" meth.name code 7 (some .boolean) pc op := fun pc op ho => qa_all_at (qx_law L xs meth.name (hlev meth.name)) pc op ho
  have hB : qa_B "SistersBoardLaw" meth.name code 7 (some .boolean) p s m #[Value.ref b] meth c := ⟨hx, hb, hml, hown, fun w hw => hts w (List.mem_filter.mp hw).1, hr, hlocks, rfl⟩
  have hEx : qa_Sc L xs st s.heap.size s := ⟨by rw [h40]; exact hX, by rw [h40]; exact hbl, by rw [h40]; exact hbl⟩
  have hR0 : qa_R D cA st s.heap.size (qa_h0 f) s.heap := fun k q hk => by
    have : (qa_ws (qa_ca st s.heap.size) cA (qa_h0 f)) = [] := rfl
    rw [this] at hk
    cases hk
  have hw := qa_walkX (R := room_1) (n0 := 0) (s0 := 0) hcd (qe_ok l D cA st s.heap.size d) hl hB hXX hEx (Nat.le_refl _) (show d + 8 ≤ 2048 by omega) (show 64 * (d + 8) ≤ 84000 by omega) (Nat.le_refl _) (show hE.2.2.1 - 0 ≤ 600128 by omega) (show hE.2.2.2 - 0 ≤ 7301098 by omega) hk (e := e) (below := below) s.heap [] _ hR0 (qa_L_entry (ca := qa_ca st s.heap.size) (av := [.ref 40]) (by decide)) va_S.rf (Nat.le_refl _) (Nat.le_refl _)
  have e1 : ([Value.ref 40] : List Value).map (qa_v (qa_ca st s.heap.size)) = [Value.ref b] := by
    show [Value.ref (st 40)] = _
    rw [h40]
  rw [e1] at hw
  rw [lg_entry_eq]
  intro T hT X
  obtain ⟨t, a1, o, b1, b2, ⟨b3, b4, b5⟩, Ls, ⟨f1, f2, f3⟩, b6⟩ := hw T hT X
  refine ⟨t, a1, o, b1, b2, b3, f1, f2, ?_⟩
  refine f3.weaken (fun y hy hlt => ?_) ?_ ?_
  · have h9 := b6 y hy
    exact absurd hlt (Nat.not_lt.mpr h9)
  · show hE.2.2.1 - 0 ≤ 600128
    omega
  · show hE.2.2.2 - 0 ≤ 7301098
    omega
