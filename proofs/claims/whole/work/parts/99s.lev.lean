/-! LEVER AS THE LAW CALLS IT: returned, or thrown and caught -/
/-! 'throw new E("text")' where E's own constructor has its link elsewhere (no stack traces). le_ctor is not a proof of our own making: it follows, mostly row by row, the library's proofs for launches with stack traces (Shelf42/F29a, ctorThrowOnSVX) and Shelf/KitTraced, joined for the case that the library lacks; le_throwX is vx_throwS of claim/NAMES.whole turned to it. -/
set_option maxHeartbeats 2000000 in
theorem le_ctor {p : Program} {l : Launch} {e : Env} {R : Room} {s : State} {m₀ : MethodId} {args : Array Value} {below : List Frame} {meth : Method} {c : Code} {V : State} {locs : List Loc} {cells slots : Nat} (X : Stand p l e R s m₀ args below meth c V locs cells slots) (hexec : p.tables.exec = Jvm.exec) (htr : e.platform.stackTraces = false) {own cls : String} {names : List String} {ic ix : Nat} {rx : ByteArray} (x0 : decode rx 0 = .ok (.aload_n 0, 1)) (x1 : decode rx 1 = .ok (.aload_n 1, 1)) (x2 : decode rx 2 = .ok (.invokespecial ix, 3)) (x5 : decode rx 5 = .ok (.return_, 1))
    (hown : s.vm.findClass own = some m₀.cls) (hcls : Bundle.fit cls = true) (hnames : ∀ n ∈ names, Bundle.fit n = true) (h : ∀ a ∈ Bundle.ownAtomsX own ic cls ix rx names, a.before args s = true) (hlocs : ∀ x ∈ locs, ∀ cell, s.heap[x.base]? = some cell → cell.vm.isStatics = false)
    {a : Addr} {cX : ClassId} {kX : Class} (hfoundX : s.vm.findClass cls = some cX) (hkX : s.vm.classes[cX]? = some kX) (hcell : V.heap[a]? = some (freshCell cX kX)) (hnew : s.heap.size ≤ a) {msg : Value} (hmsg : msg.isRef = true)
    {g : JFrame} (hg : g.method = m₀) (hsize : g.locals.size = c.maxLocals) (hlocked : g.locked = none) (hentered : g.entered = []) {rest : List Value} (hstack : g.stack = msg :: .ref a :: .ref a :: rest)
    (hd6 : decode c.code g.pc = .ok (.invokespecial ic, 3)) (hd9 : decode c.code (g.pc + 3) = .ok (.athrow, 1)) (hout : ∀ x ∈ c.exceptionTable.toList, covers x (g.pc + 3) = false)
    (hRframes : names.length + 3 < R.frames) (hRlocals : 2 * g.monitorRoom + ((Value.ref a :: rest).map fun v => v.category).sum + (13 * (names.length + 1) + 42) ≤ R.locals) (hlocks : meth.locks = false) :
    ∃ U : State, Steps p.tables e below (V.setTop g) U ∧ U.status = .running ∧ Ended U below (.threw a) ∧ s.WarmedH U.vm ∧ s.sameButNew ({ U with vm := s.vm } : State) locs cells slots ∧ ∃ ce, U.heap[a]? = some ce ∧ s.vm.findClass cls = some ce.cls ∧ ce.vm = .none := by
  have hpl : e.platform.magicAccessors = ({} : Platform).magicAccessors := by rw [X.admits.platform]
  have a' : ∀ x, x ∈ Bundle.ownAtomsX own ic cls ix rx names → x.holds args s none s [] = true := fun x hx => h x hx
  obtain ⟨T, Z0, L, -, Y⟩ := ThrowableC.of_atoms (args := args) (show e.platform.frameOwnsMonitors = true by rw [X.admits.platform]) (show e.platform.finalization = false by rw [X.admits.platform]) hpl (fun x hx => h x (by simp [Bundle.ownAtomsX, hx]))
  obtain ⟨Z, M, LZ, LM, hnZ⟩ := Init0T.ofS_atoms (args := args) hpl L Y (fun x hx => h x (by simp [Bundle.ownAtomsX, hx]))
  obtain ⟨P1, Ps, hlen, L1, hL, hP1m, hlink1, hlink⟩ := Bundle.chainSX (args := args) hpl hnZ x0 x1 x2 x5 names cls hcls hnames (fun x hx => h x (by simp [Bundle.ownAtomsX, hx]))
  have hfound : s.vm.findClass cls = some P1.m.cls := findClass_of_methodNamed hP1m
  cases Option.some.inj (hfoundX.symm.trans hfound)
  obtain ⟨c1, kX', hc1, hk, hord, -, -, hn6⟩ := Cond.instantiable_spec (a' (.instantiable cls 6) (by simp [Bundle.ownAtomsX]))
  cases Option.some.inj (hc1.symm.trans hfound)
  cases Option.some.inj (hkX.symm.trans hk)
  have sel : ∀ {x : MethodName} {mx : MethodId}, s.methodNamed? x = some mx → (x.cls ≠ "java/lang/invoke/MethodHandle" ∧ x.cls ≠ "java/lang/invoke/VarHandle") → (Cond.selects cls x x).before args s = true → selectMethod e.platform s.vm P1.m.cls mx = .method mx := by
    intro x mx hx hne hs
    obtain ⟨c2, r2, m2, q1, q2, q3, q4, -⟩ := Cond.selects_spec hs
    cases Option.some.inj (q1.symm.trans hfound)
    cases Option.some.inj (q2.symm.trans (State.methodFound?_of_named hx hne))
    cases Option.some.inj (q3.symm.trans hx)
    rw [Launch.admits_selectMethod X.admits]
    exact q4
  have hsel0 := sel Y.fill0 (by decide) (a' (.selects cls Bundle.tFill0 Bundle.tFill0) (by simp [Bundle.ownAtomsX]))
  have hselF := sel Y.fill (by decide) (a' (.selects cls Bundle.tFill Bundle.tFill) (by simp [Bundle.ownAtomsX]))
  obtain ⟨cellS0, hcS0, hiss⟩ := Y.statics
  obtain ⟨u0, hu0⟩ := Cond.staticRefV Y.unassigned L.unassignedStatic L.statics hcS0 hiss (a' (.isRef (.static Bundle.tN "UNASSIGNED_STACK" Bundle.steD)) (by simp [Bundle.ownAtomsX]))
  obtain ⟨sen, hsen⟩ := Cond.staticRefV Y.sentinel L.sentinelStatic L.statics hcS0 hiss (a' (.isRef (.static Bundle.tN "SUPPRESSED_SENTINEL" Bundle.listD)) (by simp [Bundle.ownAtomsX]))
  obtain ⟨ci198, i198, fB, hk198, hg198, ha198, hsB, -, hnB, htB, hffB⟩ := Cond.ownField (t := .object "java/lang/Object") Y.found L.cls (by decide +kernel) (a' (.fieldLink Bundle.tN 198 Bundle.tN "backtrace" "Ljava/lang/Object;") (by simp [Bundle.ownAtomsX])) (a' (.lays Bundle.tN Bundle.tN "backtrace" "Ljava/lang/Object;") (by simp [Bundle.ownAtomsX])) e.platform hpl
  obtain ⟨cellS, hcS', heS, -, hkeep⟩ := X.same.2.2.2.2.2 T.aS cellS0 hcS0
  have hcellS : V.heap[T.aS]? = some cellS := hcS'
  have hout' : ∀ i, (⟨T.aS, i⟩ : Loc) ∉ locs := fun i hmem => absurd hiss (by rw [hlocs _ hmem cellS0 hcS0]; decide)
  have hknownS : cellS.vm ≠ .unknown := by
    rw [heS]
    intro hu
    rw [show cellS0.vm = .unknown from hu] at hiss
    cases hiss
  have hneS : T.aS ≠ a := Nat.ne_of_lt (Nat.lt_of_lt_of_le (Array.getElem?_eq_some_iff.mp hcS0).1 hnew)
  obtain ⟨iM, hffM⟩ := Y.msg
  obtain ⟨tyC, dC, hdC, hdnC⟩ := Cond.laysAt hfound hk Y.cause (a' (.lays cls Bundle.tN "cause" "Ljava/lang/Throwable;") (by simp [Bundle.ownAtomsX]))
  obtain ⟨tyS, dS, hdS, hdnS⟩ := Cond.laysAt hfound hk Y.stack (a' (.lays cls Bundle.tN "stackTrace" Bundle.steD) (by simp [Bundle.ownAtomsX]))
  obtain ⟨tyP, dP, hdP, hdnP⟩ := Cond.laysAt hfound hk Y.supp (a' (.lays cls Bundle.tN "suppressedExceptions" Bundle.listD) (by simp [Bundle.ownAtomsX]))
  obtain ⟨tyM, dM, hdM, hdnM⟩ := Cond.laysAt hfound hk hffM (a' (.lays cls Bundle.tN "detailMessage" "Ljava/lang/String;") (by simp [Bundle.ownAtomsX]))
  obtain ⟨tyB, dB, hdB, hdnB⟩ := Cond.laysAt hfound hk hffB (a' (.lays cls Bundle.tN "backtrace" "Ljava/lang/Object;") (by simp [Bundle.ownAtomsX]))
  have bC := Cond.laysApart hdB hdC hdnB hdnC (by rw [hnB, Y.causeName]; decide)
  have bS := Cond.laysApart hdB hdS hdnB hdnS (by rw [hnB, Y.stackName]; decide)
  have bP := Cond.laysApart hdB hdP hdnB hdnP (by rw [hnB, Y.suppName]; decide)
  have hskip : SkipFacts T e.platform s (fun u => u) u0 ((preparedCellV T.toThrowableT (freshCell P1.m.cls kX) a u0 sen).withEntry V.cur) :=
    ⟨{ ci198 := ci198, i198 := i198, fBack := fB }, ⟨hk198, hg198, ha198, hsB⟩, by
      have := fresh_default (c := P1.m.cls) tyB
      rw [htB] at this
      simpa [preparedCellV, Cell.setSlot, Cell.withEntry, Array.getElem?_setIfInBounds, bC, bS, bP, bC.symm, bS.symm, bP.symm, defaultValue] using this, fun _ _ => rfl⟩
  obtain ⟨tm, methC, cdC, kC, vm₁, hnC, -, -, -, -, -, -, -, hW₁, st1⟩ := Steps.initColdS (tb := p.tables) (e := e) (below := below) (s := s) (U := V) X.here hexec X.warmed hpl hown (t := Bundle.initS cls) rfl rfl (Bundle.fit_spec hcls).2
    (a' (.methodLink own ic (Bundle.initS cls)) (by simp [Bundle.ownAtomsX])) (h (.instanceMethod (Bundle.initS cls)) (by cases names <;> simp [Bundle.ownAtomsX, Bundle.chainSAtomsX, Bundle.passSAtoms])) (bytes := rx) (maxL := 2) (h (.code (Bundle.initS cls) rx 2 none) (by cases names <;> simp [Bundle.ownAtomsX, Bundle.chainSAtomsX, Bundle.passSAtoms]))
    (f := g) hg (a := a) (msg := msg) (rest := .ref a :: rest) hstack hd6
  cases Option.some.inj (hnC.symm.trans hP1m)
  obtain ⟨vm₂, X₂, st2⟩ := (X.noted hW₁).ctorMessageOffV hexec (g := { g with stack := .ref a :: rest }) hg hsize T L Z LZ M LM (P1 :: Ps)
    (fun P hP => by rcases List.mem_cons.mp hP with rfl | hP; exact L1; exact hL P hP) ⟨hlink1, hlink⟩ (u0 := u0) (sen := sen) (self := a) hmsg (cell := freshCell P1.m.cls kX) (cellS := cellS)
    hcell (fun _ => by simp) (by simp) rfl rfl hsel0 hselF hcellS hneS hknownS (by rw [hkeep _ (hout' _)]; exact hu0) (by rw [hkeep _ (hout' _)]; exact hsen)
    (Takes.of_laid hk hord tyC (by rw [Y.causeType]; rfl)) (Takes.of_laid hk hord tyS (by rw [Y.stackType]; exact fits_refV_array _ u0)) (Takes.of_laid hk hord tyP (by rw [Y.suppType]; exact fits_refV_object _ sen))
    (Takes.of_laid hk hord tyM (by rw [Y.msgType]; exact fits_refV_object _ ⟨msg, hmsg⟩)) Y.objLocals hskip htr [] hd6
    (by simp only [List.length_cons, hlen]; omega) (by simp only [List.length_cons, hlen]; exact hRlocals)
  obtain ⟨hwalk, hrun, hended, hWU, hsame⟩ := X₂.athrowLeaves hexec (g := { g with stack := .ref a :: rest, pc := g.pc + 3 }) hg hlocked hentered hout (a := a) (rest := rest) rfl hd9
  have hU := heapAt_setCell_self (s := (V.setVm vm₁).setVm vm₂) (plainBareV T.toThrowableT (freshCell P1.m.cls kX) a u0 sen msg) (show a < ((V.setVm vm₁).setVm vm₂).heap.size from (Array.getElem?_eq_some_iff.mp hcell).1)
  refine ⟨_, st1 _ (fun acts => ?_), hrun, hended, hWU, hsame.weaken (fun y hy hlt' => ?_) (Nat.le_refl _) (Nat.le_refl _), _, hU, hfound, rfl⟩
  · rw [doInvoke_state]
    exact st2 _ hwalk
  · rcases List.mem_append.mp hy with h1 | h1
    · exact h1
    · exfalso
      have hb : y.base = a := by
        simp only [List.mem_cons, List.not_mem_nil, or_false] at h1
        rcases h1 with rfl | rfl | rfl | rfl | rfl <;> rfl
      rw [hb] at hlt'
      exact Nat.not_lt.mpr hnew hlt'
def le_at0 (own : String) (ic : Nat) (X : String) (ix : Nat) (rx : ByteArray) (names : List String) : List Cond := (Bundle.ownAtomsX own ic X ix rx names).filter vx_no
theorem le_throwX {p : Program} {l : Launch} {e : Env} {R : Room} {s : State} {m : MethodId} {args : Array Value} {below : List Frame} {meth : Method} {c : Code} {H : Heap} {locs : List Loc} {cells slots : Nat} {free : Addr → Prop} {ls : Array Slot} {rest : List Value} {Qc : Array Value → State → Outcome → State → Prop} {XC : String → State → State → Prop} {cc rx : ByteArray} {ix : Nat} {pc : Nat} (hexec : p.tables.exec = Jvm.exec) (hb : c.code = cc) (hl : l.stackTraces = false) {own cls text : String} {names : List String} {ik is ic mc ms sa : Nat} {A : Nat → Prop}
    (x0 : decode rx 0 = .ok (.aload_n 0, 1)) (x1 : decode rx 1 = .ok (.aload_n 1, 1)) (x2 : decode rx 2 = .ok (.invokespecial ix, 3)) (x5 : decode rx 5 = .ok (.return_, 1))
    (hown : s.vm.findClass own = some m.cls) (hcls : Bundle.fit cls = true) (hnames : ∀ n ∈ names, Bundle.fit n = true)
    (hk : (Cond.classLink own ik cls).before args s = true) (hini : (Cond.initialized cls).before args s = true) (hstr : vk_R own is text sa s) (hat : ∀ w ∈ le_at0 own ic cls ix rx names, w.before args s = true)
    (hgood : ∀ w ∈ Cond.classLink own ik cls :: Cond.initialized cls :: le_at0 own ic cls ix rx names, vx_ot w = true)
    (hU : vx_Zq Bundle.tN "UNASSIGNED_STACK" Bundle.steD A s s.heap) (hN : vx_Zq Bundle.tN "SUPPRESSED_SENTINEL" Bundle.listD A s s.heap) (hS : va_S A s.heap H locs) (hsize : ls.size = c.maxLocals)
    (d0 : decode cc pc = .ok (.new ik, 3)) (d3 : decode cc (pc + 3) = .ok (.dup, 1)) (d4 : decode cc (pc + 4) = .ok (.ldc is, 2)) (d6 : decode cc (pc + 6) = .ok (.invokespecial ic, 3)) (d9 : decode cc (pc + 9) = .ok (.athrow, 1))
    (hout : ∀ x ∈ c.exceptionTable.toList, covers x (pc + 9) = false)
    (hRframes : names.length + 3 < R.frames) (hRlocals : (rest.map fun v => v.category).sum + (13 * (names.length + 1) + 43) ≤ R.locals) (hRcells : cells + 1 ≤ R.cells) (hRslots : slots + 6 ≤ R.slots) (hlocks : meth.locks = false)
    (hx : ∀ t : State, s.vm.Alike t.vm → H.size ≤ t.heap.size → (∀ q : Nat, q < H.size → t.heap[q]? = H[q]?) → XC cls s t)
    (hf : ∀ z ∈ locs, free z.base) (hc : cells + 1 ≤ mc) (hs : slots + 6 ≤ ms) :
    W p l e R s m args below meth c H locs cells slots (vx_MQ below Qc XC args s mc ms free) (F0 m pc ls rest) := by
  intro T hT X
  have htr : e.platform.stackTraces = false := (show e.platform.stackTraces = l.stackTraces by rw [X.admits.platform]).trans hl
  have Y := vx_rebase X (R' := { frames := R.frames, locals := R.locals, cells := 1, slots := 6 }) (Nat.le_refl _) (Nat.le_refl _) hRcells hRslots
  obtain ⟨s', hA⟩ : ∃ z, z = (T.setVm s.vm).setFrames (.invoking m args :: below) := ⟨_, rfl⟩
  rw [← hA] at Y
  have hvm : s'.vm = s.vm := by rw [hA]; rfl
  have hhp : s'.heap = H := by rw [hA]; exact hT
  have hW0 : s.WarmedH s'.vm := by rw [hvm]; exact State.WarmedH.refl s
  have hat' : ∀ w ∈ le_at0 own ic cls ix rx names, w.before args s' = true := fun w hw => vx_ot_at hW0 hvm.symm (hgood w (List.mem_cons_of_mem _ (List.mem_cons_of_mem _ hw))) (hat w hw)
  have hk' : (Cond.classLink own ik cls).before args s' = true := vx_ot_at hW0 hvm.symm (hgood _ List.mem_cons_self) hk
  have hini' : (Cond.initialized cls).before args s' = true := vx_ot_at hW0 hvm.symm (hgood _ (List.mem_cons_of_mem _ List.mem_cons_self)) hini
  have hU' : vx_Zq Bundle.tN "UNASSIGNED_STACK" Bundle.steD A s' s'.heap := by rw [hhp]; exact vx_Zq.moved hW0.alike (hU.kept hS.2.1)
  have hN' : vx_Zq Bundle.tN "SUPPRESSED_SENTINEL" Bundle.listD A s' s'.heap := by rw [hhp]; exact vx_Zq.moved hW0.alike (hN.kept hS.2.1)
  have h : ∀ w ∈ Bundle.ownAtomsX own ic cls ix rx names, w.before args s' = true := vx_own hat' (vx_isRefq hU'.1) (vx_isRefq hN'.1) hU'.2.word hN'.2.word
  have hown' : s'.vm.findClass own = some m.cls := by rw [hvm]; exact hown
  have hins : (Cond.instantiable cls 6).before args s' = true := h _ (by simp [Bundle.ownAtomsX])
  obtain ⟨vm₁, cX, kX, hfX, hkX, -, -, X₁, st1⟩ := Y.newCold hexec (own := own) (C := cls) (index := ik) (n := 6) hown' hk' hins hini'
    (g := F0 m pc ls rest) rfl (by rw [hb]; exact d0) (Nat.le_refl _) (Nat.le_refl _)
  generalize hT1 : (T.setVm vm₁).pushCell { cls := cX, slots := kX.instanceTypes.map defaultValue, vm := .none } = T1 at X₁ st1
  have hcat : (Value.ref T.heap.size).category = 1 := rfl
  have hcellA : T1.heap[T.heap.size]? = some (freshCell cX kX) := by rw [← hT1]; exact State.heap_pushCell_size _ _
  have d3' : decode c.code (pc + 3) = .ok (.dup, 1) := by rw [hb]; exact d3
  have d4' : decode c.code (pc + 4) = .ok (.ldc is, 2) := by rw [hb]; exact d4
  have hstr' : vk_R own is text sa s' := vk_R.warm hW0 hstr
  obtain ⟨U, hsteps, hrun, hend, hW, hsame, ce, hce, hO1, hO2⟩ := le_ctor X₁ hexec htr x0 x1 x2 x5 (own := own) (cls := cls) (names := names) (ic := ic) hown' hcls hnames h (fun x hx => nomatch hx) hfX hkX hcellA (by rw [hhp, hT]; exact Nat.le_refl _) (msg := .ref sa) rfl
    (g := { method := m, pc := pc + 6, locals := ls, stack := .ref sa :: .ref T.heap.size :: .ref T.heap.size :: rest, locked := none }) rfl hsize rfl rfl (rest := rest) rfl
    (by rw [hb]; exact d6) (by rw [hb]; exact d9) hout hRframes (by simp only [List.map_cons, List.sum_cons, hcat]; omega) hlocks
  obtain ⟨f1, f2⟩ := vx_frame hsame
  rw [hhp] at f1 f2
  have hWs : s.WarmedH U.vm := State.WarmedH.trans hW0 hW
  have hcl : s.vm.findClass cls = some ce.cls := by
    have h9 := hO1
    rw [hvm] at h9
    exact h9
  have hall : s.sameButNew ({ U with vm := s.vm } : State) locs mc ms := by
    subst hA
    obtain ⟨e1, e2⟩ := hsame
    rw [State.setFrames_setFrames] at e1
    have h2 : (T.setVm s.vm).sameButNew ({ U with vm := s.vm } : State) [] (0 + 1) (0 + 6) := ⟨e1, e2⟩
    have h3 := X.same.trans h2
    rw [List.append_nil] at h3
    exact h3.mono hc hs
  refine ⟨U, ?_, .threw T.heap.size, hrun, hend, Or.inr ⟨T.heap.size, rfl, cls, ce, locs, hx U hWs.alike f1 (fun q hq => f2 q hq (fun z hz => nomatch hz)), hce, hO2, hcl, hWs, hall, hf⟩⟩
  refine st1 _ ?_
  show Steps p.tables e below (T1.setTop { method := m, pc := pc + 3, locals := ls, stack := .ref T.heap.size :: rest, locked := none }) _
  jvm_step X₁.here [X₁.here.top, hexec, d3', Value.category]
  exact X₁.ldcString hexec (own := own) (text := text) (index := is) (a := sa) hown' hstr'.1 hstr'.2
    (g := { method := m, pc := pc + 4, locals := ls, stack := .ref T.heap.size :: .ref T.heap.size :: rest, locked := none }) rfl d4' _ hsteps
def qa_to (o : qa_O) (cd : qa_Cd) : Nat → qa_F → Option qa_F
  | 0, x => some x
  | k + 1, x => match cd x.1 with
    | none => none
    | some op => (match op o x.2.1 x.2.2.1 x.2.2.2 with
      | some (.inl y) => qa_to o cd k y
      | _ => none)
theorem qa_to_s {o : qa_O} {cd : qa_Cd} {k pc : Nat} {L S : List Value} {h : qa_H} {op : qa_Op} {y z : qa_F} (hc : cd pc = some op) (ho : op o L S h = some (.inl y)) (hk : qa_to o cd k y = some z) : qa_to o cd (k + 1) (pc, L, S, h) = some z := by
  show (match cd pc with
    | none => none
    | some op => (match op o L S h with
      | some (.inl y) => qa_to o cd k y
      | _ => none)) = some z
  rw [hc]
  dsimp only
  rw [ho]
  exact hk
theorem qa_to_up {M : qa_N} {NW : List (String × Nat × MethodName × String)} {own nm : String} {cc : ByteArray} {nL : Nat} {ret : Option FieldType} {cd : qa_Cd} (hcd : ∀ pc op, cd pc = some op → qa_SW M NW own nm cc nL ret pc op) {o : qa_O} {d : Nat} {l : Launch} {D : va_G} {cA : Nat → ClassId} {st : Nat → Nat} {bs : Nat} (hO : qa_OK M NW l D cA st bs d o) : ∀ {k : Nat} {x z : qa_F}, qa_to o cd k x = some z → x.2.2.2.2.2.1 ≤ z.2.2.2.2.2.1 ∧ x.2.2.2.2.2.2 ≤ z.2.2.2.2.2.2
  | 0, x, z, h => by cases h; exact ⟨Nat.le_refl _, Nat.le_refl _⟩
  | k + 1, x, z, h => by
    unfold qa_to at h
    cases hc : cd x.1 with
    | none => rw [hc] at h; cases h
    | some op =>
      rw [hc] at h
      dsimp only at h
      obtain ⟨m1, m2, -⟩ := hcd _ _ hc hO
      cases ho : op o x.2.1 x.2.2.1 x.2.2.2 with
      | none => rw [ho] at h; cases h
      | some w =>
        rw [ho] at h
        cases w with
        | inr q => cases h
        | inl y =>
          have h1 := m1 _ _ _ _ ho
          have h2 := qa_to_up hcd hO (x := y) h
          exact ⟨Nat.le_trans h1.1 h2.1, Nat.le_trans h1.2 h2.2⟩
/-- the walk up to a place, whatever comes behind it -/
theorem qa_walkT {M : qa_N} {NW : List (String × Nat × MethodName × String)} {own nm : String} {cc : ByteArray} {nL : Nat} {ret : Option FieldType} {cd : qa_Cd} (hcd : ∀ pc op, cd pc = some op → qa_SW M NW own nm cc nL ret pc op) {o : qa_O} {d : Nat} {l : Launch} {D : va_G} {cA : Nat → ClassId} {st : Nat → Nat} {bs : Nat} (hO : qa_OK M NW l D cA st bs d o) {p : Program} {e : Env} {R : Room} {s : State} {m : MethodId} {args : Array Value} {below : List Frame} {meth : Method} {c : Code} (B : qa_B own nm cc nL ret p s m args meth c) (hX : qa_X NW D cA st bs s) (hbs : bs ≤ s.heap.size) (hfr : d + 1 ≤ R.frames) (hlo : 64 * (d + 1) ≤ R.locals) {n0 s0 : Nat} (hup : s.heap.size ≤ bs + n0) {z : qa_F} (hcs : z.2.2.2.2.2.1 - n0 ≤ R.cells) (hss : z.2.2.2.2.2.2 - s0 ≤ R.slots) {Q : State → Prop} (kk : ∀ (H : Heap) (locs : List Loc) (ls : Array Slot), qa_R D cA st bs z.2.2.2 H → qa_L (qa_ca st bs) nL z.2.1 ls → va_S (qa_A bs) s.heap H locs → W p l e R s m args below meth c H locs (z.2.2.2.2.2.1 - n0) (z.2.2.2.2.2.2 - s0) Q (F0 m z.1 ls (z.2.2.1.map (qa_v (qa_ca st bs))))) : ∀ {k : Nat} {x : qa_F}, qa_to o cd k x = some z → ∀ (H : Heap) (locs : List Loc) (ls : Array Slot), qa_R D cA st bs x.2.2.2 H → qa_L (qa_ca st bs) nL x.2.1 ls → va_S (qa_A bs) s.heap H locs → n0 ≤ x.2.2.2.2.2.1 → s0 ≤ x.2.2.2.2.2.2 → W p l e R s m args below meth c H locs (x.2.2.2.2.2.1 - n0) (x.2.2.2.2.2.2 - s0) Q (F0 m x.1 ls (x.2.2.1.map (qa_v (qa_ca st bs))))
  | 0, x, h => by
    intro H locs ls hR hL hS hn0 hs0
    cases h
    exact kk H locs ls hR hL hS
  | k + 1, x, h => by
    intro H locs ls hR hL hS hn0 hs0
    unfold qa_to at h
    cases hc : cd x.1 with
    | none => rw [hc] at h; cases h
    | some op =>
      rw [hc] at h
      dsimp only at h
      obtain ⟨m1, m2, m3⟩ := hcd _ _ hc hO
      obtain ⟨g1, g2⟩ := m3 B hX hbs hfr hlo (L := x.2.1) (S := x.2.2.1) (h := x.2.2.2) hR hL hS hn0 hs0 hup (e := e) (below := below)
      cases ho : op o x.2.1 x.2.2.1 x.2.2.2 with
      | none => rw [ho] at h; cases h
      | some w =>
        rw [ho] at h
        cases w with
        | inr q => cases h
        | inl y =>
          have h1 := m1 _ _ _ _ ho
          have h2 := qa_to_up hcd hO (x := y) h
          refine g1 y _ ho (by omega) (by omega) (fun H1 locs1 ls1 hR1 hL1 hS1 => ?_)
          exact qa_walkT hcd hO B hX hbs hfr hlo hup hcs hss kk h H1 locs1 ls1 hR1 hL1 hS1 (by omega) (by omega)
def le_y : MethodName := ⟨"SistersBoardLaw", "lever", "(LSistersBoard;II[J)I"⟩
def le_w : List Cond := .codeWith le_y method_3_code 5 (some .int) [(0, 10, 13, 13)] :: qa_GW
def le_n : String := "java/util/NoSuchElementException"
def le_u : List String := ["java/lang/RuntimeException", "java/lang/Exception"]
def le_x : ByteArray := ⟨#[42, 43, 183, 0, 13, 177]⟩
def le_a : List Cond := [.methodLink "SistersBoardLaw" 7 (qm 160).1, .codeWith le_y method_3_code 5 (some .int) [(0, 10, 13, 13)], .static le_y, .initialized "SistersBoardLaw", .methodLink "SistersBoardLaw" 38 le_y, .classLink "SistersBoardLaw" 13 le_n, .classLink "SistersBoard" 145 le_n, .initialized le_n]
def le_b : List Cond := [.instanceMethod (Bundle.initS le_n), .instanceMethod (Bundle.initS "java/lang/RuntimeException"), .instanceMethod (Bundle.initS "java/lang/Exception"), .instanceMethod (Bundle.initS Bundle.tN), .code (Bundle.initS "java/lang/RuntimeException") Bundle.six 2 none, .code (Bundle.initS "java/lang/Exception") Bundle.six 2 none, .code (Bundle.initS Bundle.tN) LibCode.Throwable.InitS.code 2 none]
set_option maxRecDepth 100000 in
theorem le_ia : ∀ w ∈ le_a, w ∈ qa_GW := by decide +kernel
set_option maxRecDepth 100000 in
theorem le_ib : ∀ w ∈ le_b, w ∈ qa_GW := by decide +kernel
set_option maxRecDepth 100000 in
theorem le_ic : ∀ w ∈ (le_at0 "SistersBoard" 149 le_n 13 le_x le_u).filter goodWord, w ∈ qa_GW := by decide +kernel
def le_d : List Cond := [.castable le_n le_n, .declares (Bundle.initS "java/lang/RuntimeException"), .declares (Bundle.initS "java/lang/Exception"), .declares (Bundle.initS Bundle.tN)]
set_option maxRecDepth 100000 in
theorem le_id : ∀ w ∈ (le_at0 "SistersBoard" 149 le_n 13 le_x le_u).filter (fun w => !goodWord w), w ∈ le_d := by decide +kernel
theorem le_cast {args : Array Value} {s : State} {C : String} {c : ClassId} (h : s.vm.findClass C = some c) : (Cond.castable C C).before args s = true := by
  have ha : s.vm.assignable c c = true := by
    unfold Vm.assignable Vm.assignableAux
    simp
  simp only [Cond.before, Cond.holds, Cond.value, h, ha]
  rfl
theorem le_dec {args : Array Value} {s : State} {x : MethodName} {bytes : ByteArray} {maxL : Nat} {ret : Option FieldType} (h1 : (Cond.instanceMethod x).before args s = true) (h2 : (Cond.code x bytes maxL ret).before args s = true) : (Cond.declares x).before args s = true := by
  obtain ⟨m, meth, hn, hm, hst, -⟩ := Cond.instanceMethod_spec h1
  obtain ⟨meth2, c2, hm2, -, -, -, -, -, -, hsig⟩ := Cond.code_spec hn h2
  cases hm.symm.trans hm2
  simp only [Cond.before, Cond.holds, Cond.value, hn, Option.bind_some, hm, Option.map_some, hst, hsig]
  simp
theorem le_cls {args : Array Value} {s : State} (hts : ∀ w ∈ qa_GW, w.before args s = true) : ∃ c, s.vm.findClass le_n = some c := by
  obtain ⟨m, meth, hn, -⟩ := Cond.instanceMethod_spec (hts _ (le_ib (.instanceMethod (Bundle.initS le_n)) (List.mem_cons_self)))
  exact ⟨_, findClass_of_methodNamed hn⟩
theorem le_at {args : Array Value} {s : State} (hts : ∀ w ∈ qa_GW, w.before args s = true) : ∀ w ∈ le_at0 "SistersBoard" 149 le_n 13 le_x le_u, w.before args s = true := by
  have hb : ∀ w ∈ le_b, w.before args s = true := fun w hw => hts w (le_ib w hw)
  obtain ⟨c, hc⟩ := le_cls hts
  exact vx_hat (B := le_d) (fun w hw => hts w (le_ic w hw)) le_id (vx_c (le_cast hc) (vx_c (le_dec (hb _ (List.mem_of_getElem? (i := 1) rfl)) (hb _ (List.mem_of_getElem? (i := 4) rfl))) (vx_c (le_dec (hb _ (List.mem_of_getElem? (i := 2) rfl)) (hb _ (List.mem_of_getElem? (i := 5) rfl))) (vx_c (le_dec (hb _ (List.mem_of_getElem? (i := 3) rfl)) (hb _ (List.mem_of_getElem? (i := 6) rfl))) vx_n))))
set_option maxRecDepth 100000 in
theorem le_ot : ∀ w ∈ Cond.classLink "SistersBoard" 145 le_n :: Cond.initialized le_n :: le_at0 "SistersBoard" 149 le_n 13 le_x le_u, vx_ot w = true := by decide +kernel
theorem le_160 : ∀ pc op, qa_cd qc_160 pc = some op → qa_SW qm qm_nw "SistersBoard" "lever" prog_1_method_6_code 3 (some .int) pc op := fun pc op ho => qa_all_at qx_160 pc op ho
/-- up to the throw -/
theorem le_to {o : qa_O} {x : Nat} {p0 p1 b : Int32} {h g : qa_H} (hV : qv_o 10 h [.ref x, .int p0] = true) (hB : o 84 [.ref x, .int p0] h = some (some (.int b), g)) (hb : b = 0 ∨ p1 < 0 ∨ 5 < p1) : ∃ k, qa_to o (qa_cd qc_160) k (0, [.ref x, .int p0, .int p1], [], h) = some (17, [.ref x, .int p0, .int p1], [], g) := by
  have hcall : qh_call (qv_o 10) 84 2 5 o [.ref x, .int p0, .int p1] [.int p0, .ref x] h = some (.inl (5, [.ref x, .int p0, .int p1], [.int b], g)) := by
    unfold qh_call
    have e1 : ([Value.int p0, Value.ref x].take 2).reverse = [.ref x, .int p0] := rfl
    rw [e1, if_pos ⟨Nat.le_refl 2, by show 0 ≤ 8; decide, hV⟩, hB]
    rfl
  by_cases h0 : b = 0
  · refine ⟨4, ?_⟩
    refine qa_to_s (y := (1, [.ref x, .int p0, .int p1], [.ref x], h)) rfl rfl ?_
    refine qa_to_s (y := (2, [.ref x, .int p0, .int p1], [.int p0, .ref x], h)) rfl rfl ?_
    refine qa_to_s rfl hcall ?_
    refine qa_to_s (y := (17, [.ref x, .int p0, .int p1], [], g)) rfl ?_ rfl
    unfold qa_p qp_ifeq
    dsimp only
    rw [if_pos h0]
  · have e0 : qa_p (qp_ifeq 17 8) o [.ref x, .int p0, .int p1] [.int b] g = some (.inl (8, [.ref x, .int p0, .int p1], [], g)) := by
      unfold qa_p qp_ifeq
      dsimp only
      rw [if_neg h0]
    by_cases h1 : p1 < 0
    · refine ⟨6, ?_⟩
      refine qa_to_s (y := (1, [.ref x, .int p0, .int p1], [.ref x], h)) rfl rfl ?_
      refine qa_to_s (y := (2, [.ref x, .int p0, .int p1], [.int p0, .ref x], h)) rfl rfl ?_
      refine qa_to_s rfl hcall ?_
      refine qa_to_s rfl e0 ?_
      refine qa_to_s (y := (9, [.ref x, .int p0, .int p1], [.int p1], g)) rfl rfl ?_
      refine qa_to_s (y := (17, [.ref x, .int p0, .int p1], [], g)) rfl ?_ rfl
      unfold qa_p qp_iflt
      dsimp only
      rw [if_pos h1]
    · have h2 : 5 < p1 := by
        rcases hb with hb | hb | hb
        · exact absurd hb h0
        · exact absurd hb h1
        · exact hb
      refine ⟨9, ?_⟩
      refine qa_to_s (y := (1, [.ref x, .int p0, .int p1], [.ref x], h)) rfl rfl ?_
      refine qa_to_s (y := (2, [.ref x, .int p0, .int p1], [.int p0, .ref x], h)) rfl rfl ?_
      refine qa_to_s rfl hcall ?_
      refine qa_to_s rfl e0 ?_
      refine qa_to_s (y := (9, [.ref x, .int p0, .int p1], [.int p1], g)) rfl rfl ?_
      refine qa_to_s (y := (12, [.ref x, .int p0, .int p1], [], g)) rfl (by
        unfold qa_p qp_iflt
        dsimp only
        rw [if_neg h1]) ?_
      refine qa_to_s (y := (13, [.ref x, .int p0, .int p1], [.int p1], g)) rfl rfl ?_
      refine qa_to_s (y := (14, [.ref x, .int p0, .int p1], [.int 5, .int p1], g)) rfl rfl ?_
      refine qa_to_s (y := (17, [.ref x, .int p0, .int p1], [], g)) rfl ?_ rfl
      unfold qa_p qp_icle
      dsimp only
      rw [if_neg (Int32.not_le.mpr h2)]
/-- lever, where it throws -/
theorem le_throw {o : qa_O} {d : Nat} {l : Launch} {D : va_G} {cA : Nat → ClassId} {st : Nat → Nat} {bs : Nat} (hO : qa_OK qm qm_nw l D cA st bs d o) (hl : l.stackTraces = false) {x : Nat} {p0 p1 b : Int32} {h g : qa_H} (hV : qv_o 10 h [.ref x, .int p0] = true) (hB : o 84 [.ref x, .int p0] h = some (some (.int b), g)) (hb : b = 0 ∨ p1 < 0 ∨ 5 < p1) :
    vx_Met l (qm 160).1 (qa_mw qm 160) { frames := d + 6, cells := g.2.2.1 + 1 - h.2.2.1, slots := g.2.2.2 + 6 - h.2.2.2, locals := 64 * (d + 6) } (qa_Pc qm_nw D cA st bs [.ref x, .int p0, .int p1] h) (fun _ _ _ _ => False) (fun E s0 t => E = le_n ∧ qa_R D cA st bs g t.heap ∧ va_F (qa_A bs) s0 t) (g.2.2.1 + 1 - h.2.2.1) (g.2.2.2 + 6 - h.2.2.2) (qa_A bs) := by
  obtain ⟨hup1, hup2⟩ : h.2.2.1 ≤ g.2.2.1 ∧ h.2.2.2 ≤ g.2.2.2 := (hO _ _ _ _ hB).1
  obtain ⟨k, hk⟩ := le_to (p1 := p1) hV hB hb
  have hM : qm 160 = (⟨"SistersBoard", "lever", "(II)I"⟩, prog_1_method_6_code, 3, some .int) := rfl
  unfold qa_mw
  rw [hM]
  refine vx_ofW (cc := prog_1_method_6_code) (maxL := 3) (ret := some .int) (by decide) rfl ?_
  intro p e s m args below meth c s1 B hml htab hv
  obtain ⟨rfl, hX, hR, hb1, hb2⟩ := hv
  have hts := atoms_spec (ws := .code ⟨"SistersBoard", "lever", "(II)I"⟩ prog_1_method_6_code 3 (some .int) :: qa_GW) B.pre
  have hgw : ∀ w ∈ qa_GW, w.before (([Value.ref x, .int p0, .int p1]).map (qa_v (qa_ca st bs))).toArray s = true := fun w hw => hts w (List.mem_cons_of_mem _ hw)
  have hBB : qa_B "SistersBoard" "lever" prog_1_method_6_code 3 (some .int) p s m (([Value.ref x, .int p0, .int p1]).map (qa_v (qa_ca st bs))).toArray meth c := ⟨B.exec, B.bytes, hml, findClass_of_methodNamed B.named, hgw, B.returns, B.notSynchronized, (name_of_methodNamed B.named B.method).1⟩
  obtain ⟨⟨-, hU, hN⟩, sa, hstr⟩ := hX.2.2.2.2.2.2.2.2.2
  rw [lg_entry_eq]
  have hw := qa_walkT (z := (17, [.ref x, .int p0, .int p1], [], g)) (n0 := h.2.2.1) (s0 := h.2.2.2) (R := (headSpec (.code ⟨"SistersBoard", "lever", "(II)I"⟩ prog_1_method_6_code 3 (some .int) :: qa_GW) { frames := d + 6, cells := g.2.2.1 + 1 - h.2.2.1, slots := g.2.2.2 + 6 - h.2.2.2, locals := 64 * (d + 6) }).room) (Q := vx_MQ below (fun _ _ _ _ => False) (fun E s0 t => E = le_n ∧ qa_R D cA st bs g t.heap ∧ va_F (qa_A bs) s0 t) (([Value.ref x, .int p0, .int p1]).map (qa_v (qa_ca st bs))).toArray s (g.2.2.1 + 1 - h.2.2.1) (g.2.2.2 + 6 - h.2.2.2) (qa_A bs)) le_160 hO hBB hX hb1 (show d + 1 ≤ d + 6 by omega) (show 64 * (d + 1) ≤ 64 * (d + 6) by omega) hb2 (show g.2.2.1 - h.2.2.1 ≤ g.2.2.1 + 1 - h.2.2.1 by omega) (show g.2.2.2 - h.2.2.2 ≤ g.2.2.2 + 6 - h.2.2.2 by omega) (fun H locs ls hR1 hL1 hS1 => by
    exact le_throwX (rx := le_x) (ix := 13) (cc := prog_1_method_6_code) (pc := 17) (own := "SistersBoard") (cls := le_n) (text := "no such switch or question") (names := le_u) (ik := 145) (is := 147) (ic := 149) (sa := sa) (A := qa_A bs) (rest := []) B.exec B.bytes hl (by decide +kernel) (by decide +kernel) (by decide +kernel) (by decide +kernel) (findClass_of_methodNamed B.named) (by decide) (by decide) (hgw _ (le_ia _ (List.mem_of_getElem? (i := 6) rfl))) (hgw _ (le_ia _ (List.mem_of_getElem? (i := 7) rfl))) hstr (le_at hgw) le_ot hU hN hS1 (hL1.1.trans hml.symm) (by decide +kernel) (by decide +kernel) (by decide +kernel) (by decide +kernel) (by decide +kernel) (fun z hz => (htab z hz).elim) (show 2 + 3 < d + 6 by omega) (show 0 + (13 * (2 + 1) + 43) ≤ 64 * (d + 6) by omega) (show g.2.2.1 - h.2.2.1 + 1 ≤ g.2.2.1 + 1 - h.2.2.1 by omega) (show g.2.2.2 - h.2.2.2 + 6 ≤ g.2.2.2 + 6 - h.2.2.2 by omega) B.notSynchronized (fun t _ h1 h2 => ⟨rfl, va_P.kept hR1 (fun k q hk => h2 q.1 (vx_lt hR1 hk)), Nat.le_trans hS1.1 h1, fun q hq hn => (h2 q (Nat.lt_of_lt_of_le hq hS1.1)).trans (hS1.2.1 q hq hn)⟩) hS1.2.2 (show g.2.2.1 - h.2.2.1 + 1 ≤ g.2.2.1 + 1 - h.2.2.1 by omega) (show g.2.2.2 - h.2.2.2 + 6 ≤ g.2.2.2 + 6 - h.2.2.2 by omega)) hk (e := e) (below := below) _ _ _ hR (qa_L_entry (av := [.ref x, .int p0, .int p1]) (Nat.le_of_ble_eq_true rfl)) va_S.rf (Nat.le_refl _) (Nat.le_refl _)
  dsimp only at hw
  rw [Nat.sub_self, Nat.sub_self] at hw
  exact hw
def qc_le : List (Nat × qa_Op) := [(0, qa_p (qp_ald 3 1)), (1, qa_p (qp_c (.int 0) 2)), (2, qa_p (qp_ald 0 3)), (3, qa_p (qp_ild 1 4)), (4, qa_p (qp_ild 2 5)), (5, qh_call (qv_o 10) 160 3 8), (8, qa_p (qp_i2l 9)), (9, qa_q (qh_last 10)), (10, qa_p (qp_goto 17)), (15, qa_p (qp_c (.int 1) 16)), (16, qa_r (qg_i .int)), (17, qa_p (qp_c (.int 0) 18)), (18, qa_r (qg_i .int))]
theorem qx_le : qa_all (qa_SW qm qm_nw "SistersBoardLaw" "lever" method_3_code 5 (some .int)) qc_le :=
  ⟨qa_SW.p (qs_aload_n (q := 3) (by decide +kernel) rfl),
  qa_SW.p (qs_iconst (k := 0) (by decide +kernel) (by decide +kernel)),
  qa_SW.p (qs_aload_n (q := 0) (by decide +kernel) rfl),
  qa_SW.p (qs_iload_n (q := 1) (by decide +kernel) rfl),
  qa_SW.p (qs_iload_n (q := 2) (by decide +kernel) rfl),
  qs_call (qz_160 (ix := 7) (le_ia _ (List.mem_of_getElem? (i := 0) rfl)) (by decide +kernel)),
  qa_SW.p (qs_i2l (by decide +kernel)),
  qa_SW.q (qs_last (by decide +kernel)),
  qa_SW.p (qs_goto (off := 7) (by decide +kernel) (by decide +kernel)),
  qa_SW.p (qs_iconst (k := 1) (by decide +kernel) (by decide +kernel)),
  qs_ireturn (by decide +kernel),
  qa_SW.p (qs_iconst (k := 0) (by decide +kernel) (by decide +kernel)),
  qs_ireturn (by decide +kernel), trivial⟩
theorem le_cd : ∀ pc op, qa_cd qc_le pc = some op → qa_SW qm qm_nw "SistersBoardLaw" "lever" method_3_code 5 (some .int) pc op := fun pc op ho => qa_all_at qx_le pc op ho
/-- what lever owes the law -/
def le_M (l : Launch) (D : va_G) (cA : Nat → ClassId) (st : Nat → Nat) (bs d : Nat) (av : List Value) (h : qa_H) (r : Option Value × qa_H) : Prop := (h.2.2.1 ≤ r.2.2.2.1 ∧ h.2.2.2 ≤ r.2.2.2.2) ∧ Met l le_y le_w { frames := d + 7, cells := r.2.2.2.1 - h.2.2.1, slots := r.2.2.2.2 - h.2.2.2, locals := 64 * (d + 7) } (qa_Pc qm_nw D cA st bs av h) (qa_Q D cA st bs r) (r.2.2.2.1 - h.2.2.1) (r.2.2.2.2 - h.2.2.2) (qa_A bs)
theorem le_metA {o : qa_O} {d : Nat} {l : Launch} {D : va_G} {cA : Nat → ClassId} {st : Nat → Nat} {bs : Nat} (hO : qa_OK qm qm_nw l D cA st bs d o) {x u N : Nat} {p0 p1 v : Int32} {f : Nat → Int64} {h g : qa_H} (hV : qv_o 10 h [.ref x, .int p0, .int p1] = true) (hA : o 160 [.ref x, .int p0, .int p1] h = some (some (.int v), g)) (ha : qa_arr g u 1 = some (N, .inr (.inl f))) (hN : 0 < N) : le_M l D cA st bs d [.ref x, .int p0, .int p1, .ref u] h (some (.int 0), (qa_up g.1 u (.inl (1, N, .inr (.inl (vp_updL f 0 v.toInt64)))), g.2)) := by
  obtain ⟨r, er⟩ : ∃ r : Option Value × qa_H, r = (some (.int 0), (qa_up g.1 u (.inl (1, N, .inr (.inl (vp_updL f 0 v.toInt64)))), g.2)) := ⟨_, rfl⟩
  rw [← er]
  have hr : qa_lm o (qa_cd qc_le) (0, qa_ent 5 [.ref x, .int p0, .int p1, .ref u], [], h) = some r := by
    show qa_lm o (qa_cd qc_le) (0, [.ref x, .int p0, .int p1, .ref u, .retAddr 0], [], h) = _
    refine (qa_go (y := (1, [.ref x, .int p0, .int p1, .ref u, .retAddr 0], [.ref u], h)) rfl rfl).trans ?_
    refine go_c rfl ?_
    refine go_ald_5_0 rfl ?_
    refine go_ild_5_1 rfl ?_
    refine go_ild_5_2 rfl ?_
    refine go_call3 (S := [.int 0, .ref u]) rfl hA (Nat.le_of_ble_eq_true rfl) hV ?_
    refine go_i2l (S := [.int 0, .ref u]) rfl ?_
    refine (qa_go (y := (10, [.ref x, .int p0, .int p1, .ref u, .retAddr 0], [], r.2)) rfl ?_).trans ?_
    · have e : qh_last 10 [.ref x, .int p0, .int p1, .ref u, .retAddr 0] [.long v.toInt64, .int 0, .ref u] g = some (10, [.ref x, .int p0, .int p1, .ref u, .retAddr 0], [], r.2) := by
        rw [er]
        unfold qh_last
        dsimp only
        rw [ha]
        dsimp only
        rw [if_neg (by
          intro hh
          rcases hh with hh | hh
          · exact absurd hh (by decide)
          · have : N ≤ 0 := hh
            omega)]
        rfl
      unfold qa_q
      rw [e]
    · refine go_goto rfl ?_
      refine go_c rfl ?_
      exact fin_i rfl rfl (by rw [er])
  obtain ⟨k, hk⟩ := qa_lm_run hr
  refine ⟨qa_run_up le_cd hO hk, ?_⟩
  refine va_MetW (cc := method_3_code) (maxL := 5) (ret := some .int) (by decide) rfl ?_
  intro p e s m args below meth c s1 B hml hv
  obtain ⟨rfl, hX, hR, hb1, hb2⟩ := hv
  have hts := atoms_spec (ws := le_w) B.pre
  have hBB : qa_B "SistersBoardLaw" "lever" method_3_code 5 (some .int) p s m (([Value.ref x, .int p0, .int p1, .ref u]).map (qa_v (qa_ca st bs))).toArray meth c := ⟨B.exec, B.bytes, hml, findClass_of_methodNamed B.named, fun w hw => hts w (List.mem_cons_of_mem _ hw), B.returns, B.notSynchronized, (name_of_methodNamed B.named B.method).1⟩
  rw [lg_entry_eq]
  have hw := qa_walk (r := r) (R := (headSpec le_w { frames := d + 7, cells := r.2.2.2.1 - h.2.2.1, slots := r.2.2.2.2 - h.2.2.2, locals := 64 * (d + 7) }).room) le_cd hO hBB hX hb1 (show d + 1 ≤ d + 7 by omega) (show 64 * (d + 1) ≤ 64 * (d + 7) by omega) hb2 (Nat.le_refl _) (Nat.le_refl _) hk (e := e) (below := below) _ _ _ hR (qa_L_entry (av := [.ref x, .int p0, .int p1, .ref u]) (Nat.le_of_ble_eq_true rfl)) va_S.rf (Nat.le_refl _) (Nat.le_refl _)
  dsimp only at hw
  rw [Nat.sub_self, Nat.sub_self] at hw
  exact hw
theorem le_v {x : Nat} {p0 p1 : Int32} {h : qa_H} (hV : qv_o 10 h [.ref x, .int p0, .int p1] = true) : qv_o 10 h [.ref x, .int p0] = true := hV
theorem le_g {w : Cond} {x : Cond} {ws : List Cond} (h : w ∈ x :: qa_GW) (hx : x ∈ qa_GW) : w ∈ qa_GW := by
  rcases List.mem_cons.mp h with e | e
  · rw [e]; exact hx
  · exact e
theorem le_wV : GoodIn qa_GW (wsV "SistersBoardLaw" 7 "SistersBoard" (qm 160).1 (qa_mw qm 160)) := fun w hw => by
  rcases List.mem_append.mp hw with q | q
  · simp only [List.mem_cons, List.not_mem_nil, or_false] at q
    rcases q with q | q | q | q <;> subst q
    · exact ⟨le_ia _ (List.mem_of_getElem? (i := 0) rfl), qa_gw (le_ia _ (List.mem_of_getElem? (i := 0) rfl))⟩
    · exact ⟨qa_in5 232 rfl rfl, qa_gw (qa_in5 232 rfl rfl)⟩
    · exact ⟨qa_in5 233 rfl rfl, qa_gw (qa_in5 233 rfl rfl)⟩
    · exact ⟨qa_in1 1 rfl rfl, qa_gw (qa_in1 1 rfl rfl)⟩
  · exact qa_good qy_c160 w q
theorem le_metB {o : qa_O} {d : Nat} {l : Launch} {D : va_G} {cA : Nat → ClassId} {st : Nat → Nat} {bs : Nat} (hO : qa_OK qm qm_nw l D cA st bs d o) (hl : l.stackTraces = false) {x u : Nat} {p0 p1 b : Int32} {h g : qa_H} (hV : qv_o 10 h [.ref x, .int p0, .int p1] = true) (hB : o 84 [.ref x, .int p0] h = some (some (.int b), g)) (hb : b = 0 ∨ p1 < 0 ∨ 5 < p1) : le_M l D cA st bs d [.ref x, .int p0, .int p1, .ref u] h (some (.int 1), (g.1, g.2.1, g.2.2.1 + 1, g.2.2.2 + 6)) := by
  obtain ⟨hup1, hup2⟩ : h.2.2.1 ≤ g.2.2.1 ∧ h.2.2.2 ≤ g.2.2.2 := (hO _ _ _ _ hB).1
  refine ⟨⟨by show h.2.2.1 ≤ g.2.2.1 + 1; omega, by show h.2.2.2 ≤ g.2.2.2 + 6; omega⟩, ?_⟩
  refine va_MetW (cc := method_3_code) (maxL := 5) (ret := some .int) (by decide) rfl ?_
  intro p e s m args below meth c s1 B hml hv
  obtain ⟨rfl, hX, hR, hb1, hb2⟩ := hv
  have hts := atoms_spec (ws := le_w) B.pre
  have hgw : ∀ w ∈ qa_GW, w.before (([Value.ref x, .int p0, .int p1, .ref u]).map (qa_v (qa_ca st bs))).toArray s = true := fun w hw => hts w (List.mem_cons_of_mem _ hw)
  have hown := findClass_of_methodNamed B.named
  have hBB : qa_B "SistersBoardLaw" "lever" method_3_code 5 (some .int) p s m (([Value.ref x, .int p0, .int p1, .ref u]).map (qa_v (qa_ca st bs))).toArray meth c := ⟨B.exec, B.bytes, hml, hown, hgw, B.returns, B.notSynchronized, (name_of_methodNamed B.named B.method).1⟩
  have htab : c.exceptionTable.toList = [] ++ (⟨0, 10, 13, 13⟩ : ExceptionTableEntry) :: [] := vx_table (x := le_y) B (hts (.codeWith le_y method_3_code 5 (some .int) [(0, 10, 13, 13)]) List.mem_cons_self)
  obtain ⟨cn, hcn⟩ := le_cls hgw
  rw [lg_entry_eq]
  have hto : qa_to o (qa_cd qc_le) 5 (0, [.ref x, .int p0, .int p1, .ref u, .retAddr 0], [], h) = some (5, [.ref x, .int p0, .int p1, .ref u, .retAddr 0], [.int p1, .int p0, .ref x, .int 0, .ref u], h) := rfl
  have hw := qa_walkT (z := (5, [.ref x, .int p0, .int p1, .ref u, .retAddr 0], [.int p1, .int p0, .ref x, .int 0, .ref u], h)) (n0 := h.2.2.1) (s0 := h.2.2.2) (R := (headSpec le_w { frames := d + 7, cells := g.2.2.1 + 1 - h.2.2.1, slots := g.2.2.2 + 6 - h.2.2.2, locals := 64 * (d + 7) }).room) (Q := MQ below (qa_Q D cA st bs (some (.int 1), (g.1, g.2.1, g.2.2.1 + 1, g.2.2.2 + 6))) (([Value.ref x, .int p0, .int p1, .ref u]).map (qa_v (qa_ca st bs))).toArray s (g.2.2.1 + 1 - h.2.2.1) (g.2.2.2 + 6 - h.2.2.2) (qa_A bs)) le_cd hO hBB hX hb1 (show d + 1 ≤ d + 7 by omega) (show 64 * (d + 1) ≤ 64 * (d + 7) by omega) hb2 (show h.2.2.1 - h.2.2.1 ≤ g.2.2.1 + 1 - h.2.2.1 by omega) (show h.2.2.2 - h.2.2.2 ≤ g.2.2.2 + 6 - h.2.2.2 by omega) (fun H locs ls hR1 hL1 hS1 => by
    refine qa_size (fun hsz => ?_)
    have hsz : H.size ≤ s.heap.size + (h.2.2.1 - h.2.2.1) := hsz
    cases ho : qa_obj h x 10 with
    | none =>
      have hV : (qa_obj h x 10).isSome = true := hV
      rw [ho] at hV
      cases hV
    | some fs =>
      have hrun := vx_runV (g := F0 m 5 ls (([Value.int p1, .int p0, .ref x, .int 0, .ref u]).map (qa_v (qa_ca st bs)))) (b := qa_ca st bs x) (As := [Value.int p0, .int p1]) (rest := [Value.int 0, .ref (qa_ca st bs u)]) (cc := method_3_code) (nL := 5) (Ts := qa_GW) (own := "SistersBoardLaw") (e := e) (below := below) (meth := meth) (H := H) (locs := locs) (cells := h.2.2.1 - h.2.2.1) (slots := h.2.2.2 - h.2.2.2) (R := (headSpec le_w { frames := d + 7, cells := g.2.2.1 + 1 - h.2.2.1, slots := g.2.2.2 + 6 - h.2.2.2, locals := 64 * (d + 7) }).room) ⟨B.exec, B.bytes, hml, hown, hgw⟩ (le_throw hO hl (le_v hV) hB hb)
        (cwV 2 hgw le_wV rfl rfl rfl (by decide +kernel) ⟨show d + 6 + 1 ≤ d + 7 by omega, show 8 + (3 + 11) + 64 * (d + 6) ≤ 64 * (d + 7) by omega⟩)
        ⟨qa_Pc_blind, va_recv (ci := 10) hX.1 hR1 rfl (qa_obj_ws ho), fun U hU hW => ⟨rfl, hX.move hW (fun a h1 h2 => by rw [hU]; exact hS1.2.1 a h1 h2), by rw [hU]; exact hR1, by rw [hU]; exact Nat.le_trans hb1 hS1.1, by rw [hU]; omega⟩⟩ rfl rfl hL1.1 rfl (Nat.le_of_ble_eq_true rfl) (show decode method_3_code 5 = .ok (.invokevirtual 7, 3) by decide +kernel) ⟨show h.2.2.1 - h.2.2.1 + (g.2.2.1 + 1 - h.2.2.1) ≤ g.2.2.1 + 1 - h.2.2.1 by omega, show h.2.2.2 - h.2.2.2 + (g.2.2.2 + 6 - h.2.2.2) ≤ g.2.2.2 + 6 - h.2.2.2 by omega⟩
      intro T hT X
      rcases hrun T hT X with ⟨v, s3, t, T', L, h0, X', hLf, e1, e2, hf, -⟩ | ⟨q, s3, t, T', L, E, ce, h0, X', hLf, e1, e2, ⟨hE, hR2, hF⟩, hce, hcv, hcl, st1⟩
      · exact hf.elim
      · subst hE
        obtain ⟨k1, k2, k3⟩ := vx_keep h0 e1 hS1 (fun _ _ z => z) (fun _ z => z) hLf hF
        have hr2 : qa_lm o (qa_cd qc_le) (15, [], [], (g.1, g.2.1, g.2.2.1 + 1, g.2.2.2 + 6)) = some (some (.int 1), (g.1, g.2.1, g.2.2.1 + 1, g.2.2.2 + 6)) := go_c rfl (fin_i rfl rfl rfl)
        obtain ⟨k9, hk9⟩ := qa_lm_run hr2
        have hR3 : qa_R D cA st bs (g.1, g.2.1, g.2.2.1 + 1, g.2.2.2 + 6) T'.heap := by
          rw [e1]
          exact hR2
        have kx : vx_W p l e (headSpec le_w { frames := d + 7, cells := g.2.2.1 + 1 - h.2.2.1, slots := g.2.2.2 + 6 - h.2.2.2, locals := 64 * (d + 7) }).room s m (([Value.ref x, .int p0, .int p1, .ref u]).map (qa_v (qa_ca st bs))).toArray below meth c T'.heap (locs ++ L) (h.2.2.1 - h.2.2.1 + (g.2.2.1 + 1 - h.2.2.1)) (h.2.2.2 - h.2.2.2 + (g.2.2.2 + 6 - h.2.2.2)) (MQ below (qa_Q D cA st bs (some (.int 1), (g.1, g.2.1, g.2.2.1 + 1, g.2.2.2 + 6))) (([Value.ref x, .int p0, .int p1, .ref u]).map (qa_v (qa_ca st bs))).toArray s (g.2.2.1 + 1 - h.2.2.1) (g.2.2.2 + 6 - h.2.2.2) (qa_A bs)) (F0 m 5 ls [Value.int 0, .ref (qa_ca st bs u)]) q := by
          refine vx_catch (own := "SistersBoardLaw") (name := le_n) (E := le_n) (ce := ce) hown [] ⟨0, 10, 13, 13⟩ [] htab (fun z hz => nomatch hz) rfl (by decide) (hgw _ (le_ia _ (List.mem_of_getElem? (i := 5) rfl))) (le_cast hcn) (by rw [e1]; exact hce) hcv hcl ?_
          refine lv_astore (i := 4) (nL := 5) (cc := method_3_code) (pc := 13) B.exec B.bytes (by decide +kernel) hL1.has (by decide) rfl (fun ls2 h2 => ?_)
          rw [Nat.sub_self, Nat.sub_self, Nat.zero_add, Nat.zero_add]
          exact qa_walk (r := (some (.int 1), (g.1, g.2.1, g.2.2.1 + 1, g.2.2.2 + 6))) (n0 := h.2.2.1) (s0 := h.2.2.2) (x := (15, [], [], (g.1, g.2.1, g.2.2.1 + 1, g.2.2.2 + 6))) le_cd hO hBB hX hb1 (show d + 1 ≤ d + 7 by omega) (show 64 * (d + 1) ≤ 64 * (d + 7) by omega) hb2 (Nat.le_refl _) (Nat.le_refl _) hk9 (e := e) (below := below) T'.heap (locs ++ L) ls2 hR3 ⟨h2.1, h2.2.1, fun i v hi => nomatch hi⟩ k3 (show h.2.2.1 ≤ g.2.2.1 + 1 by omega) (show h.2.2.2 ≤ g.2.2.2 + 6 by omega)
        obtain ⟨t2, a1, b1⟩ := kx T' rfl X'
        exact ⟨t2, st1.trans a1, b1⟩) hto (e := e) (below := below) _ _ _ hR (qa_L_entry (av := [.ref x, .int p0, .int p1, .ref u]) (Nat.le_of_ble_eq_true rfl)) va_S.rf (Nat.le_refl _) (Nat.le_refl _)
  dsimp only at hw
  rw [Nat.sub_self, Nat.sub_self] at hw
  exact hw
theorem le_wS : GoodIn qa_GW (va_wsS "SistersBoardLaw" 38 le_y le_w) := fun w hw => by
  rcases List.mem_append.mp hw with q | q
  · simp only [List.mem_cons, List.not_mem_nil, or_false] at q
    rcases q with q | q | q <;> subst q
    · exact ⟨le_ia _ (List.mem_of_getElem? (i := 4) rfl), qa_gw (le_ia _ (List.mem_of_getElem? (i := 4) rfl))⟩
    · exact ⟨le_ia _ (List.mem_of_getElem? (i := 2) rfl), qa_gw (le_ia _ (List.mem_of_getElem? (i := 2) rfl))⟩
    · exact ⟨le_ia _ (List.mem_of_getElem? (i := 3) rfl), qa_gw (le_ia _ (List.mem_of_getElem? (i := 3) rfl))⟩
  · have := le_g (ws := []) q (le_ia _ (List.mem_of_getElem? (i := 1) rfl))
    exact ⟨this, qa_gw this⟩
theorem le_loc (d : Nat) : 8 + (5 + 11) + 64 * (d + 7) ≤ 64 * (d + 8) := by omega
theorem qs_lev (N : Nat) (xs : Nat → Int32) (nm : String) : qa_SX (qa_Sc N xs) qm qm_nw "SistersBoardLaw" nm code 7 (some .boolean) 346 (qh_lev 349) := by
  intro o d l D cA st bs hO hl
  have key : ∀ L S h y, qh_lev 349 o L S h = some (.inl y) → ∃ (u x : Nat) (p0 p1 : Int32) (S' : List Value) (r : Option Value × qa_H), S = .ref u :: .int p1 :: .int p0 :: .ref x :: S' ∧ (S'.map fun v => v.category).sum ≤ 8 ∧ y = (349, L, r.1.toList ++ S', r.2) ∧ le_M l D cA st bs d [.ref x, .int p0, .int p1, .ref u] h r := by
    intro L S h y hy
    unfold qh_lev at hy
    split at hy
    · rename_i u p1 p0 x S'
      split at hy
      · rename_i hc
        obtain ⟨hc1, hc2⟩ := hc
        split at hy
        · rename_i v g hA
          split at hy
          · rename_i N f ha
            split at hy
            · rename_i hN
              cases hy
              exact ⟨u, x, p0, p1, S', _, rfl, hc1, rfl, le_metA hO hc2 hA ha hN⟩
            · cases hy
          · cases hy
        · cases hy
        · split at hy
          · rename_i b g hB
            split at hy
            · rename_i hb
              cases hy
              exact ⟨u, x, p0, p1, S', _, rfl, hc1, rfl, le_metB hO hl hc2 hB hb⟩
            · cases hy
          · cases hy
      · cases hy
    · cases hy
  refine ⟨fun L S h y hy => ?_, fun L S h r hr => ?_, ?_⟩
  · obtain ⟨u, x, p0, p1, S', r, -, -, rfl, hm, -⟩ := key L S h y hy
    exact hm
  · unfold qh_lev at hr
    repeat' split at hr
    all_goals cases hr
  · intro p e R s m args below meth c B hX hE hbs hfr hlo L S h H locs ls n0 s0 hR hL hS hn0 hs0 hup
    refine ⟨fun y Q hy hcs hss kk => ?_, fun r hr => ?_⟩
    · obtain ⟨u, x, p0, p1, S', r, rfl, hsum, rfl, ⟨hm1, hm2⟩, hM⟩ := key L S h y hy
      dsimp only at hcs hss kk
      refine qa_size (fun hsz => ?_)
      obtain ⟨hx, hb, hml, hown, hts, hr9, hlk, hnam⟩ := B
      have hf1 : d + 7 + 1 ≤ R.frames := by omega
      have hf2 : 8 + (5 + 11) + 64 * (d + 7) ≤ R.locals := Nat.le_trans (le_loc d) hlo
      have hrun := vx_runSW (g := F0 m 346 ls ((Value.ref u :: .int p1 :: .int p0 :: .ref x :: S').map (qa_v (qa_ca st bs)))) (As := ([Value.ref x, .int p0, .int p1, .ref u]).map (qa_v (qa_ca st bs))) (rest := S'.map (qa_v (qa_ca st bs))) (e := e) (below := below) (meth := meth) (H := H) (locs := locs) (cells := h.2.2.1 - n0) (slots := h.2.2.2 - s0) (cc := code) (nL := 7) (Ts := qa_GW) (own := "SistersBoardLaw") (R := R) ⟨hx, hb, hml, hown, hts⟩ hM (vx_cwSW (bytes := method_3_code) (maxL := 5) (ret := some .int) (hh := [(0, 10, 13, 13)]) (ws' := qa_GW) 4 hts le_wS rfl rfl rfl (by decide +kernel) ⟨hf1, hf2⟩)
        ⟨qa_Pc_blind, fun U hU hW => ⟨rfl, hX.move hW (fun a h1 h2 => by rw [hU]; exact hS.2.1 a h1 h2), by rw [hU]; exact hR, by rw [hU]; exact Nat.le_trans hbs hS.1, by rw [hU]; omega⟩⟩ rfl rfl hL.1 rfl (qa_sum hsum) (show decode code 346 = .ok (.invokestatic 38, 3) by decide +kernel) ⟨by omega, by omega⟩
      refine qa_call_of hrun hS (fun H1 locs1 hR1 hS1 => ?_)
      have k9 := kk H1 locs1 ls hR1 hL hS1
      rw [show h.2.2.1 - n0 + (r.2.2.2.1 - h.2.2.1) = r.2.2.2.1 - n0 by omega, show h.2.2.2 - s0 + (r.2.2.2.2 - h.2.2.2) = r.2.2.2.2 - s0 by omega]
      rw [List.map_append] at k9
      have e1 : (r.1.toList).map (qa_v (qa_ca st bs)) = (r.1.map (qa_v (qa_ca st bs))).toList := by cases r.1 <;> rfl
      rw [e1] at k9
      exact k9
    · unfold qh_lev at hr
      repeat' split at hr
      all_goals cases hr
