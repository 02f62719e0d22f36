/-! LEVER AS THE LAW CALLS IT: returned, or thrown and caught -/
def qa_to (o : qa_O) (cd : qa_Cd) : Nat → qa_F → Option qa_F
  | 0, x => some x
  | k + 1, x => match cd x.1 with
    | none => none
    | some op => (match op o x.2.1 x.2.2.1 x.2.2.2 with
      | some (.inl y) => qa_to o cd k y
      | _ => none)
theorem qa_to_s {o : qa_O} {cd : qa_Cd} {k pc : Nat} {L S : List Value} {h : qa_H} {op : qa_Op} {y z : qa_F} (hc : cd pc = some op) (ho : op o L S h = some (.inl y)) (hk : qa_to o cd k y = some z) : qa_to o cd (k + 1) (pc, L, S, h) = some z := by
  show (match cd pc with
    | none => none
    | some op => (match op o L S h with
      | some (.inl y) => qa_to o cd k y
      | _ => none)) = some z
  rw [hc]
  dsimp only
  rw [ho]
  exact hk
theorem qa_to_up {M : qa_N} {NW : List (String × Nat × MethodName × String)} {own nm : String} {cc : ByteArray} {nL : Nat} {ret : Option FieldType} {cd : qa_Cd} (hcd : ∀ pc op, cd pc = some op → qa_SW M NW own nm cc nL ret pc op) {o : qa_O} {d : Nat} {l : Launch} {D : va_G} {cA : Nat → ClassId} {st : Nat → Nat} {bs : Nat} (hO : qa_OK M NW l D cA st bs d o) : ∀ {k : Nat} {x z : qa_F}, qa_to o cd k x = some z → x.2.2.2.2.2.1 ≤ z.2.2.2.2.2.1 ∧ x.2.2.2.2.2.2 ≤ z.2.2.2.2.2.2
  | 0, x, z, h => by cases h; exact ⟨Nat.le_refl _, Nat.le_refl _⟩
  | k + 1, x, z, h => by
    unfold qa_to at h
    cases hc : cd x.1 with
    | none => rw [hc] at h; cases h
    | some op =>
      rw [hc] at h
      dsimp only at h
      obtain ⟨m1, m2, -⟩ := hcd _ _ hc hO
      cases ho : op o x.2.1 x.2.2.1 x.2.2.2 with
      | none => rw [ho] at h; cases h
      | some w =>
        rw [ho] at h
        cases w with
        | inr q => cases h
        | inl y =>
          have h1 := m1 _ _ _ _ ho
          have h2 := qa_to_up hcd hO (x := y) h
          exact ⟨Nat.le_trans h1.1 h2.1, Nat.le_trans h1.2 h2.2⟩
/-- the walk up to a place, whatever comes behind it -/
theorem qa_walkT {M : qa_N} {NW : List (String × Nat × MethodName × String)} {own nm : String} {cc : ByteArray} {nL : Nat} {ret : Option FieldType} {cd : qa_Cd} (hcd : ∀ pc op, cd pc = some op → qa_SW M NW own nm cc nL ret pc op) {o : qa_O} {d : Nat} {l : Launch} {D : va_G} {cA : Nat → ClassId} {st : Nat → Nat} {bs : Nat} (hO : qa_OK M NW l D cA st bs d o) {p : Program} {e : Env} {R : Room} {s : State} {m : MethodId} {args : Array Value} {below : List Frame} {meth : Method} {c : Code} (B : qa_B own nm cc nL ret p s m args meth c) (hX : qa_X NW D cA st bs s) (hbs : bs ≤ s.heap.size) (hfr : d + 1 ≤ R.frames) (hlo : 64 * (d + 1) ≤ R.locals) {n0 s0 : Nat} (hup : s.heap.size ≤ bs + n0) {z : qa_F} (hcs : z.2.2.2.2.2.1 - n0 ≤ R.cells) (hss : z.2.2.2.2.2.2 - s0 ≤ R.slots) {Q : State → Prop} (kk : ∀ (H : Heap) (locs : List Loc) (ls : Array Slot), qa_R D cA st bs z.2.2.2 H → qa_L (qa_ca st bs) nL z.2.1 ls → va_S (qa_A bs) s.heap H locs → W p l e R s m args below meth c H locs (z.2.2.2.2.2.1 - n0) (z.2.2.2.2.2.2 - s0) Q (F0 m z.1 ls (z.2.2.1.map (qa_v (qa_ca st bs))))) : ∀ {k : Nat} {x : qa_F}, qa_to o cd k x = some z → ∀ (H : Heap) (locs : List Loc) (ls : Array Slot), qa_R D cA st bs x.2.2.2 H → qa_L (qa_ca st bs) nL x.2.1 ls → va_S (qa_A bs) s.heap H locs → n0 ≤ x.2.2.2.2.2.1 → s0 ≤ x.2.2.2.2.2.2 → W p l e R s m args below meth c H locs (x.2.2.2.2.2.1 - n0) (x.2.2.2.2.2.2 - s0) Q (F0 m x.1 ls (x.2.2.1.map (qa_v (qa_ca st bs))))
  | 0, x, h => by
    intro H locs ls hR hL hS hn0 hs0
    cases h
    exact kk H locs ls hR hL hS
  | k + 1, x, h => by
    intro H locs ls hR hL hS hn0 hs0
    unfold qa_to at h
    cases hc : cd x.1 with
    | none => rw [hc] at h; cases h
    | some op =>
      rw [hc] at h
      dsimp only at h
      obtain ⟨m1, m2, m3⟩ := hcd _ _ hc hO
      obtain ⟨g1, g2⟩ := m3 B hX hbs hfr hlo (L := x.2.1) (S := x.2.2.1) (h := x.2.2.2) hR hL hS hn0 hs0 hup (e := e) (below := below)
      cases ho : op o x.2.1 x.2.2.1 x.2.2.2 with
      | none => rw [ho] at h; cases h
      | some w =>
        rw [ho] at h
        cases w with
        | inr q => cases h
        | inl y =>
          have h1 := m1 _ _ _ _ ho
          have h2 := qa_to_up hcd hO (x := y) h
          refine g1 y _ ho (by omega) (by omega) (fun H1 locs1 ls1 hR1 hL1 hS1 => ?_)
          exact qa_walkT hcd hO B hX hbs hfr hlo hup hcs hss kk h H1 locs1 ls1 hR1 hL1 hS1 (by omega) (by omega)
def le_y : MethodName := ⟨"SistersBoardLaw", "lever", "(LSistersBoard;II[J)I"⟩
def le_w : List Cond := .codeWith le_y method_3_code 5 (some .int) [(0, 10, 13, 13)] :: qa_GW
def le_n : String := "java/util/NoSuchElementException"
def le_u : List String := ["java/lang/RuntimeException", "java/lang/Exception"]
def le_a : List Cond := [.methodLink "SistersBoardLaw" 7 (qm 160).1, .codeWith le_y method_3_code 5 (some .int) [(0, 10, 13, 13)], .static le_y, .initialized "SistersBoardLaw", .methodLink "SistersBoardLaw" 38 le_y, .classLink "SistersBoardLaw" 13 le_n, .classLink "SistersBoard" 145 le_n, .initialized le_n]
def le_b : List Cond := [.instanceMethod (Bundle.initS le_n), .instanceMethod (Bundle.initS "java/lang/RuntimeException"), .instanceMethod (Bundle.initS "java/lang/Exception"), .instanceMethod (Bundle.initS Bundle.tN), .code (Bundle.initS "java/lang/RuntimeException") Bundle.six 2 none, .code (Bundle.initS "java/lang/Exception") Bundle.six 2 none, .code (Bundle.initS Bundle.tN) LibCode.Throwable.InitS.code 2 none]
set_option maxRecDepth 100000 in
theorem le_ia : ∀ w ∈ le_a, w ∈ qa_GW := by decide +kernel
set_option maxRecDepth 100000 in
theorem le_ib : ∀ w ∈ le_b, w ∈ qa_GW := by decide +kernel
set_option maxRecDepth 100000 in
theorem le_ic : ∀ w ∈ (vx_atS "SistersBoard" 149 le_n le_u).filter goodWord, w ∈ qa_GW := by decide +kernel
def le_d : List Cond := [.castable le_n le_n, .declares (Bundle.initS "java/lang/RuntimeException"), .declares (Bundle.initS "java/lang/Exception"), .declares (Bundle.initS Bundle.tN)]
set_option maxRecDepth 100000 in
theorem le_id : ∀ w ∈ (vx_atS "SistersBoard" 149 le_n le_u).filter (fun w => !goodWord w), w ∈ le_d := by decide +kernel
theorem le_cast {args : Array Value} {s : State} {C : String} {c : ClassId} (h : s.vm.findClass C = some c) : (Cond.castable C C).before args s = true := by
  have ha : s.vm.assignable c c = true := by
    unfold Vm.assignable Vm.assignableAux
    simp
  simp only [Cond.before, Cond.holds, Cond.value, h, ha]
  rfl
theorem le_dec {args : Array Value} {s : State} {x : MethodName} {bytes : ByteArray} {maxL : Nat} {ret : Option FieldType} (h1 : (Cond.instanceMethod x).before args s = true) (h2 : (Cond.code x bytes maxL ret).before args s = true) : (Cond.declares x).before args s = true := by
  obtain ⟨m, meth, hn, hm, hst, -⟩ := Cond.instanceMethod_spec h1
  obtain ⟨meth2, c2, hm2, -, -, -, -, -, -, hsig⟩ := Cond.code_spec hn h2
  cases hm.symm.trans hm2
  simp only [Cond.before, Cond.holds, Cond.value, hn, Option.bind_some, hm, Option.map_some, hst, hsig]
  simp
theorem le_cls {args : Array Value} {s : State} (hts : ∀ w ∈ qa_GW, w.before args s = true) : ∃ c, s.vm.findClass le_n = some c := by
  obtain ⟨m, meth, hn, -⟩ := Cond.instanceMethod_spec (hts _ (le_ib (.instanceMethod (Bundle.initS le_n)) (List.mem_cons_self)))
  exact ⟨_, findClass_of_methodNamed hn⟩
theorem le_at {args : Array Value} {s : State} (hts : ∀ w ∈ qa_GW, w.before args s = true) : ∀ w ∈ vx_atS "SistersBoard" 149 le_n le_u, w.before args s = true := by
  have hb : ∀ w ∈ le_b, w.before args s = true := fun w hw => hts w (le_ib w hw)
  obtain ⟨c, hc⟩ := le_cls hts
  exact vx_hat (B := le_d) (fun w hw => hts w (le_ic w hw)) le_id (vx_c (le_cast hc) (vx_c (le_dec (hb _ (List.mem_of_getElem? (i := 1) rfl)) (hb _ (List.mem_of_getElem? (i := 4) rfl))) (vx_c (le_dec (hb _ (List.mem_of_getElem? (i := 2) rfl)) (hb _ (List.mem_of_getElem? (i := 5) rfl))) (vx_c (le_dec (hb _ (List.mem_of_getElem? (i := 3) rfl)) (hb _ (List.mem_of_getElem? (i := 6) rfl))) vx_n))))
set_option maxRecDepth 100000 in
theorem le_ot : ∀ w ∈ Cond.classLink "SistersBoard" 145 le_n :: Cond.initialized le_n :: vx_atS "SistersBoard" 149 le_n le_u, vx_ot w = true := by decide +kernel
theorem le_160 : ∀ pc op, qa_cd qc_160 pc = some op → qa_SW qm qm_nw "SistersBoard" "lever" prog_1_method_6_code 3 (some .int) pc op := fun pc op ho => qa_all_at qx_160 pc op ho
/-- up to the throw -/
theorem le_to {o : qa_O} {x : Nat} {p0 p1 b : Int32} {h g : qa_H} (hV : qv_o 10 h [.ref x, .int p0] = true) (hB : o 84 [.ref x, .int p0] h = some (some (.int b), g)) (hb : b = 0 ∨ p1 < 0 ∨ 5 < p1) : ∃ k, qa_to o (qa_cd qc_160) k (0, [.ref x, .int p0, .int p1], [], h) = some (17, [.ref x, .int p0, .int p1], [], g) := by
  have hcall : qh_call (qv_o 10) 84 2 5 o [.ref x, .int p0, .int p1] [.int p0, .ref x] h = some (.inl (5, [.ref x, .int p0, .int p1], [.int b], g)) := by
    unfold qh_call
    have e1 : ([Value.int p0, Value.ref x].take 2).reverse = [.ref x, .int p0] := rfl
    rw [e1, if_pos ⟨by decide, by show 0 ≤ 8; decide, hV⟩, hB]
    rfl
  by_cases h0 : b = 0
  · refine ⟨4, ?_⟩
    refine qa_to_s (y := (1, [.ref x, .int p0, .int p1], [.ref x], h)) rfl rfl ?_
    refine qa_to_s (y := (2, [.ref x, .int p0, .int p1], [.int p0, .ref x], h)) rfl rfl ?_
    refine qa_to_s rfl hcall ?_
    refine qa_to_s (y := (17, [.ref x, .int p0, .int p1], [], g)) rfl ?_ rfl
    unfold qa_p qp_ifeq
    dsimp only
    rw [if_pos h0]
  · have e0 : qa_p (qp_ifeq 17 8) o [.ref x, .int p0, .int p1] [.int b] g = some (.inl (8, [.ref x, .int p0, .int p1], [], g)) := by
      unfold qa_p qp_ifeq
      dsimp only
      rw [if_neg h0]
    by_cases h1 : p1 < 0
    · refine ⟨6, ?_⟩
      refine qa_to_s (y := (1, [.ref x, .int p0, .int p1], [.ref x], h)) rfl rfl ?_
      refine qa_to_s (y := (2, [.ref x, .int p0, .int p1], [.int p0, .ref x], h)) rfl rfl ?_
      refine qa_to_s rfl hcall ?_
      refine qa_to_s rfl e0 ?_
      refine qa_to_s (y := (9, [.ref x, .int p0, .int p1], [.int p1], g)) rfl rfl ?_
      refine qa_to_s (y := (17, [.ref x, .int p0, .int p1], [], g)) rfl ?_ rfl
      unfold qa_p qp_iflt
      dsimp only
      rw [if_pos h1]
    · have h2 : 5 < p1 := by
        rcases hb with hb | hb | hb
        · exact absurd hb h0
        · exact absurd hb h1
        · exact hb
      refine ⟨9, ?_⟩
      refine qa_to_s (y := (1, [.ref x, .int p0, .int p1], [.ref x], h)) rfl rfl ?_
      refine qa_to_s (y := (2, [.ref x, .int p0, .int p1], [.int p0, .ref x], h)) rfl rfl ?_
      refine qa_to_s rfl hcall ?_
      refine qa_to_s rfl e0 ?_
      refine qa_to_s (y := (9, [.ref x, .int p0, .int p1], [.int p1], g)) rfl rfl ?_
      refine qa_to_s (y := (12, [.ref x, .int p0, .int p1], [], g)) rfl (by
        unfold qa_p qp_iflt
        dsimp only
        rw [if_neg h1]) ?_
      refine qa_to_s (y := (13, [.ref x, .int p0, .int p1], [.int p1], g)) rfl rfl ?_
      refine qa_to_s (y := (14, [.ref x, .int p0, .int p1], [.int 5, .int p1], g)) rfl rfl ?_
      refine qa_to_s (y := (17, [.ref x, .int p0, .int p1], [], g)) rfl ?_ rfl
      unfold qa_p qp_icle
      dsimp only
      rw [if_neg (Int32.not_le.mpr h2)]
/-- lever, where it throws -/
theorem le_throw {o : qa_O} {d : Nat} {l : Launch} {D : va_G} {cA : Nat → ClassId} {st : Nat → Nat} {bs : Nat} (hO : qa_OK qm qm_nw l D cA st bs d o) (hl : l.stackTraces = false) {x : Nat} {p0 p1 b : Int32} {h g : qa_H} (hV : qv_o 10 h [.ref x, .int p0] = true) (hB : o 84 [.ref x, .int p0] h = some (some (.int b), g)) (hb : b = 0 ∨ p1 < 0 ∨ 5 < p1) :
    vx_Met l (qm 160).1 (qa_mw qm 160) { frames := d + 6, cells := g.2.2.1 + 1 - h.2.2.1, slots := g.2.2.2 + 6 - h.2.2.2, locals := 64 * (d + 6) } (qa_Pc qm_nw D cA st bs [.ref x, .int p0, .int p1] h) (fun _ _ _ _ => False) (fun E s0 t => E = le_n ∧ qa_R D cA st bs g t.heap ∧ va_F (qa_A bs) s0 t) (g.2.2.1 + 1 - h.2.2.1) (g.2.2.2 + 6 - h.2.2.2) (qa_A bs) := by
  obtain ⟨hup1, hup2⟩ : h.2.2.1 ≤ g.2.2.1 ∧ h.2.2.2 ≤ g.2.2.2 := (hO _ _ _ _ hB).1
  obtain ⟨k, hk⟩ := le_to (p1 := p1) hV hB hb
  have hM : qm 160 = (⟨"SistersBoard", "lever", "(II)I"⟩, prog_1_method_6_code, 3, some .int) := rfl
  unfold qa_mw
  rw [hM]
  refine vx_ofW (cc := prog_1_method_6_code) (maxL := 3) (ret := some .int) (by decide) rfl ?_
  intro p e s m args below meth c s1 B hml htab hv
  obtain ⟨rfl, hX, hR, hb1, hb2⟩ := hv
  have hts := atoms_spec (ws := .code ⟨"SistersBoard", "lever", "(II)I"⟩ prog_1_method_6_code 3 (some .int) :: qa_GW) B.pre
  have hgw : ∀ w ∈ qa_GW, w.before (([Value.ref x, .int p0, .int p1]).map (qa_v (qa_ca st bs))).toArray s = true := fun w hw => hts w (List.mem_cons_of_mem _ hw)
  have hBB : qa_B "SistersBoard" "lever" prog_1_method_6_code 3 (some .int) p s m (([Value.ref x, .int p0, .int p1]).map (qa_v (qa_ca st bs))).toArray meth c := ⟨B.exec, B.bytes, hml, findClass_of_methodNamed B.named, hgw, B.returns, B.notSynchronized, (name_of_methodNamed B.named B.method).1⟩
  obtain ⟨⟨-, hU, hN⟩, sa, hstr⟩ := hX.2.2.2.2.2.2.2.2.2
  rw [lg_entry_eq]
  have hw := qa_walkT (z := (17, [.ref x, .int p0, .int p1], [], g)) (n0 := h.2.2.1) (s0 := h.2.2.2) (R := (headSpec (.code ⟨"SistersBoard", "lever", "(II)I"⟩ prog_1_method_6_code 3 (some .int) :: qa_GW) { frames := d + 6, cells := g.2.2.1 + 1 - h.2.2.1, slots := g.2.2.2 + 6 - h.2.2.2, locals := 64 * (d + 6) }).room) (Q := vx_MQ below (fun _ _ _ _ => False) (fun E s0 t => E = le_n ∧ qa_R D cA st bs g t.heap ∧ va_F (qa_A bs) s0 t) (([Value.ref x, .int p0, .int p1]).map (qa_v (qa_ca st bs))).toArray s (g.2.2.1 + 1 - h.2.2.1) (g.2.2.2 + 6 - h.2.2.2) (qa_A bs)) le_160 hO hBB hX hb1 (show d + 1 ≤ d + 6 by omega) (show 64 * (d + 1) ≤ 64 * (d + 6) by omega) hb2 (show g.2.2.1 - h.2.2.1 ≤ g.2.2.1 + 1 - h.2.2.1 by omega) (show g.2.2.2 - h.2.2.2 ≤ g.2.2.2 + 6 - h.2.2.2 by omega) (fun H locs ls hR1 hL1 hS1 => by
    exact vx_throwS (cc := prog_1_method_6_code) (pc := 17) (own := "SistersBoard") (cls := le_n) (text := "no such switch or question") (names := le_u) (ik := 145) (is := 147) (ic := 149) (sa := sa) (A := qa_A bs) (rest := []) B.exec B.bytes hl (findClass_of_methodNamed B.named) (by decide) (by decide) (hgw _ (le_ia _ (List.mem_of_getElem? (i := 6) rfl))) (hgw _ (le_ia _ (List.mem_of_getElem? (i := 7) rfl))) hstr (le_at hgw) le_ot hU hN hS1 (hL1.1.trans hml.symm) (by decide +kernel) (by decide +kernel) (by decide +kernel) (by decide +kernel) (by decide +kernel) (fun z hz => (htab z hz).elim) (show 2 + 3 < d + 6 by omega) (show 0 + (13 * (2 + 1) + 43) ≤ 64 * (d + 6) by omega) (show g.2.2.1 - h.2.2.1 + 1 ≤ g.2.2.1 + 1 - h.2.2.1 by omega) (show g.2.2.2 - h.2.2.2 + 6 ≤ g.2.2.2 + 6 - h.2.2.2 by omega) B.notSynchronized (fun t _ h1 h2 => ⟨rfl, va_P.kept hR1 (fun k q hk => h2 q.1 (vx_lt hR1 hk)), Nat.le_trans hS1.1 h1, fun q hq hn => (h2 q (Nat.lt_of_lt_of_le hq hS1.1)).trans (hS1.2.1 q hq hn)⟩) hS1.2.2 (show g.2.2.1 - h.2.2.1 + 1 ≤ g.2.2.1 + 1 - h.2.2.1 by omega) (show g.2.2.2 - h.2.2.2 + 6 ≤ g.2.2.2 + 6 - h.2.2.2 by omega)) hk (e := e) (below := below) _ _ _ hR (qa_L_entry (av := [.ref x, .int p0, .int p1]) (by decide)) va_S.rf (Nat.le_refl _) (Nat.le_refl _)
  dsimp only at hw
  rw [Nat.sub_self, Nat.sub_self] at hw
  exact hw
def qc_le : List (Nat × qa_Op) := [(0, qa_p (qp_ald 3 1)), (1, qa_p (qp_c (.int 0) 2)), (2, qa_p (qp_ald 0 3)), (3, qa_p (qp_ild 1 4)), (4, qa_p (qp_ild 2 5)), (5, qh_call (qv_o 10) 160 3 8), (8, qa_p (qp_i2l 9)), (9, qa_q (qh_last 10)), (10, qa_p (qp_goto 17)), (15, qa_p (qp_c (.int 1) 16)), (16, qa_r (qg_i .int)), (17, qa_p (qp_c (.int 0) 18)), (18, qa_r (qg_i .int))]
theorem qx_le : qa_all (qa_SW qm qm_nw "SistersBoardLaw" "lever" method_3_code 5 (some .int)) qc_le :=
  ⟨qa_SW.p (qs_aload_n (q := 3) (by decide +kernel) rfl),
  qa_SW.p (qs_iconst (k := 0) (by decide +kernel) (by decide +kernel)),
  qa_SW.p (qs_aload_n (q := 0) (by decide +kernel) rfl),
  qa_SW.p (qs_iload_n (q := 1) (by decide +kernel) rfl),
  qa_SW.p (qs_iload_n (q := 2) (by decide +kernel) rfl),
  qs_call (qz_160 (ix := 7) (le_ia _ (List.mem_of_getElem? (i := 0) rfl)) (by decide +kernel)),
  qa_SW.p (qs_i2l (by decide +kernel)),
  qa_SW.q (qs_last (by decide +kernel)),
  qa_SW.p (qs_goto (off := 7) (by decide +kernel) (by decide +kernel)),
  qa_SW.p (qs_iconst (k := 1) (by decide +kernel) (by decide +kernel)),
  qs_ireturn (by decide +kernel),
  qa_SW.p (qs_iconst (k := 0) (by decide +kernel) (by decide +kernel)),
  qs_ireturn (by decide +kernel), trivial⟩
theorem le_cd : ∀ pc op, qa_cd qc_le pc = some op → qa_SW qm qm_nw "SistersBoardLaw" "lever" method_3_code 5 (some .int) pc op := fun pc op ho => qa_all_at qx_le pc op ho
/-- what lever owes the law -/
def le_M (l : Launch) (D : va_G) (cA : Nat → ClassId) (st : Nat → Nat) (bs d : Nat) (av : List Value) (h : qa_H) (r : Option Value × qa_H) : Prop := (h.2.2.1 ≤ r.2.2.2.1 ∧ h.2.2.2 ≤ r.2.2.2.2) ∧ Met l le_y le_w { frames := d + 7, cells := r.2.2.2.1 - h.2.2.1, slots := r.2.2.2.2 - h.2.2.2, locals := 64 * (d + 7) } (qa_Pc qm_nw D cA st bs av h) (qa_Q D cA st bs r) (r.2.2.2.1 - h.2.2.1) (r.2.2.2.2 - h.2.2.2) (qa_A bs)
theorem le_metA {o : qa_O} {d : Nat} {l : Launch} {D : va_G} {cA : Nat → ClassId} {st : Nat → Nat} {bs : Nat} (hO : qa_OK qm qm_nw l D cA st bs d o) {x u N : Nat} {p0 p1 v : Int32} {f : Nat → Int64} {h g : qa_H} (hV : qv_o 10 h [.ref x, .int p0, .int p1] = true) (hA : o 160 [.ref x, .int p0, .int p1] h = some (some (.int v), g)) (ha : qa_arr g u 1 = some (N, .inr (.inl f))) (hN : 0 < N) : le_M l D cA st bs d [.ref x, .int p0, .int p1, .ref u] h (some (.int 0), (qa_up g.1 u (.inl (1, N, .inr (.inl (vp_updL f 0 v.toInt64)))), g.2)) := by
  obtain ⟨r, er⟩ : ∃ r : Option Value × qa_H, r = (some (.int 0), (qa_up g.1 u (.inl (1, N, .inr (.inl (vp_updL f 0 v.toInt64)))), g.2)) := ⟨_, rfl⟩
  rw [← er]
  have hr : qa_lm o (qa_cd qc_le) (0, qa_ent 5 [.ref x, .int p0, .int p1, .ref u], [], h) = some r := by
    show qa_lm o (qa_cd qc_le) (0, [.ref x, .int p0, .int p1, .ref u, .retAddr 0], [], h) = _
    refine (qa_go (y := (1, [.ref x, .int p0, .int p1, .ref u, .retAddr 0], [.ref u], h)) rfl rfl).trans ?_
    refine go_c rfl ?_
    refine go_ald_5_0 rfl ?_
    refine go_ild_5_1 rfl ?_
    refine go_ild_5_2 rfl ?_
    refine go_call3 (S := [.int 0, .ref u]) rfl hA (by decide) hV ?_
    refine go_i2l (S := [.int 0, .ref u]) rfl ?_
    refine (qa_go (y := (10, [.ref x, .int p0, .int p1, .ref u, .retAddr 0], [], r.2)) rfl ?_).trans ?_
    · have e : qh_last 10 [.ref x, .int p0, .int p1, .ref u, .retAddr 0] [.long v.toInt64, .int 0, .ref u] g = some (10, [.ref x, .int p0, .int p1, .ref u, .retAddr 0], [], r.2) := by
        rw [er]
        unfold qh_last
        dsimp only
        rw [ha]
        dsimp only
        rw [if_neg (by
          intro hh
          rcases hh with hh | hh
          · exact absurd hh (by decide)
          · have : N ≤ 0 := hh
            omega)]
        rfl
      unfold qa_q
      rw [e]
    · refine go_goto rfl ?_
      refine go_c rfl ?_
      exact fin_i rfl rfl (by rw [er])
  obtain ⟨k, hk⟩ := qa_lm_run hr
  refine ⟨qa_run_up le_cd hO hk, ?_⟩
  refine va_MetW (cc := method_3_code) (maxL := 5) (ret := some .int) (by decide) rfl ?_
  intro p e s m args below meth c s1 B hml hv
  obtain ⟨rfl, hX, hR, hb1, hb2⟩ := hv
  have hts := atoms_spec (ws := le_w) B.pre
  have hBB : qa_B "SistersBoardLaw" "lever" method_3_code 5 (some .int) p s m (([Value.ref x, .int p0, .int p1, .ref u]).map (qa_v (qa_ca st bs))).toArray meth c := ⟨B.exec, B.bytes, hml, findClass_of_methodNamed B.named, fun w hw => hts w (List.mem_cons_of_mem _ hw), B.returns, B.notSynchronized, (name_of_methodNamed B.named B.method).1⟩
  rw [lg_entry_eq]
  have hw := qa_walk (r := r) (R := (headSpec le_w { frames := d + 7, cells := r.2.2.2.1 - h.2.2.1, slots := r.2.2.2.2 - h.2.2.2, locals := 64 * (d + 7) }).room) le_cd hO hBB hX hb1 (show d + 1 ≤ d + 7 by omega) (show 64 * (d + 1) ≤ 64 * (d + 7) by omega) hb2 (Nat.le_refl _) (Nat.le_refl _) hk (e := e) (below := below) _ _ _ hR (qa_L_entry (av := [.ref x, .int p0, .int p1, .ref u]) (by decide)) va_S.rf (Nat.le_refl _) (Nat.le_refl _)
  dsimp only at hw
  rw [Nat.sub_self, Nat.sub_self] at hw
  exact hw
theorem le_v {x : Nat} {p0 p1 : Int32} {h : qa_H} (hV : qv_o 10 h [.ref x, .int p0, .int p1] = true) : qv_o 10 h [.ref x, .int p0] = true := hV
theorem le_g {w : Cond} {x : Cond} {ws : List Cond} (h : w ∈ x :: qa_GW) (hx : x ∈ qa_GW) : w ∈ qa_GW := by
  rcases List.mem_cons.mp h with e | e
  · rw [e]; exact hx
  · exact e
theorem le_wV : GoodIn qa_GW (wsV "SistersBoardLaw" 7 "SistersBoard" (qm 160).1 (qa_mw qm 160)) := fun w hw => by
  rcases List.mem_append.mp hw with q | q
  · simp only [List.mem_cons, List.not_mem_nil, or_false] at q
    rcases q with q | q | q | q <;> subst q
    · exact ⟨le_ia _ (List.mem_of_getElem? (i := 0) rfl), qa_gw (le_ia _ (List.mem_of_getElem? (i := 0) rfl))⟩
    · exact ⟨qa_in5 232 rfl rfl, qa_gw (qa_in5 232 rfl rfl)⟩
    · exact ⟨qa_in5 233 rfl rfl, qa_gw (qa_in5 233 rfl rfl)⟩
    · exact ⟨qa_in1 1 rfl rfl, qa_gw (qa_in1 1 rfl rfl)⟩
  · exact qa_good qy_c160 w q
theorem le_metB {o : qa_O} {d : Nat} {l : Launch} {D : va_G} {cA : Nat → ClassId} {st : Nat → Nat} {bs : Nat} (hO : qa_OK qm qm_nw l D cA st bs d o) (hl : l.stackTraces = false) {x u : Nat} {p0 p1 b : Int32} {h g : qa_H} (hV : qv_o 10 h [.ref x, .int p0, .int p1] = true) (hB : o 84 [.ref x, .int p0] h = some (some (.int b), g)) (hb : b = 0 ∨ p1 < 0 ∨ 5 < p1) : le_M l D cA st bs d [.ref x, .int p0, .int p1, .ref u] h (some (.int 1), (g.1, g.2.1, g.2.2.1 + 1, g.2.2.2 + 6)) := by
  obtain ⟨hup1, hup2⟩ : h.2.2.1 ≤ g.2.2.1 ∧ h.2.2.2 ≤ g.2.2.2 := (hO _ _ _ _ hB).1
  refine ⟨⟨by show h.2.2.1 ≤ g.2.2.1 + 1; omega, by show h.2.2.2 ≤ g.2.2.2 + 6; omega⟩, ?_⟩
  refine va_MetW (cc := method_3_code) (maxL := 5) (ret := some .int) (by decide) rfl ?_
  intro p e s m args below meth c s1 B hml hv
  obtain ⟨rfl, hX, hR, hb1, hb2⟩ := hv
  have hts := atoms_spec (ws := le_w) B.pre
  have hgw : ∀ w ∈ qa_GW, w.before (([Value.ref x, .int p0, .int p1, .ref u]).map (qa_v (qa_ca st bs))).toArray s = true := fun w hw => hts w (List.mem_cons_of_mem _ hw)
  have hown := findClass_of_methodNamed B.named
  have hBB : qa_B "SistersBoardLaw" "lever" method_3_code 5 (some .int) p s m (([Value.ref x, .int p0, .int p1, .ref u]).map (qa_v (qa_ca st bs))).toArray meth c := ⟨B.exec, B.bytes, hml, hown, hgw, B.returns, B.notSynchronized, (name_of_methodNamed B.named B.method).1⟩
  have htab : c.exceptionTable.toList = [] ++ (⟨0, 10, 13, 13⟩ : ExceptionTableEntry) :: [] := vx_table B (hts (.codeWith le_y method_3_code 5 (some .int) [(0, 10, 13, 13)]) List.mem_cons_self)
  obtain ⟨cn, hcn⟩ := le_cls hgw
  rw [lg_entry_eq]
  have hto : qa_to o (qa_cd qc_le) 5 (0, [.ref x, .int p0, .int p1, .ref u, .retAddr 0], [], h) = some (5, [.ref x, .int p0, .int p1, .ref u, .retAddr 0], [.int p1, .int p0, .ref x, .int 0, .ref u], h) := rfl
  have hw := qa_walkT (z := (5, [.ref x, .int p0, .int p1, .ref u, .retAddr 0], [.int p1, .int p0, .ref x, .int 0, .ref u], h)) (n0 := h.2.2.1) (s0 := h.2.2.2) (R := (headSpec le_w { frames := d + 7, cells := g.2.2.1 + 1 - h.2.2.1, slots := g.2.2.2 + 6 - h.2.2.2, locals := 64 * (d + 7) }).room) (Q := MQ below (qa_Q D cA st bs (some (.int 1), (g.1, g.2.1, g.2.2.1 + 1, g.2.2.2 + 6))) (([Value.ref x, .int p0, .int p1, .ref u]).map (qa_v (qa_ca st bs))).toArray s (g.2.2.1 + 1 - h.2.2.1) (g.2.2.2 + 6 - h.2.2.2) (qa_A bs)) le_cd hO hBB hX hb1 (show d + 1 ≤ d + 7 by omega) (show 64 * (d + 1) ≤ 64 * (d + 7) by omega) hb2 (show h.2.2.1 - h.2.2.1 ≤ g.2.2.1 + 1 - h.2.2.1 by omega) (show h.2.2.2 - h.2.2.2 ≤ g.2.2.2 + 6 - h.2.2.2 by omega) (fun H locs ls hR1 hL1 hS1 => by
    refine qa_size (fun hsz => ?_)
    have hsz : H.size ≤ s.heap.size + (h.2.2.1 - h.2.2.1) := hsz
    cases ho : qa_obj h x 10 with
    | none =>
      have hV : (qa_obj h x 10).isSome = true := hV
      rw [ho] at hV
      cases hV
    | some fs =>
      have hrun := vx_runV (g := F0 m 5 ls (([Value.int p1, .int p0, .ref x, .int 0, .ref u]).map (qa_v (qa_ca st bs)))) (b := qa_ca st bs x) (As := [Value.int p0, .int p1]) (rest := [Value.int 0, .ref (qa_ca st bs u)]) (cc := method_3_code) (nL := 5) (Ts := qa_GW) (own := "SistersBoardLaw") (e := e) (below := below) (meth := meth) (H := H) (locs := locs) (cells := h.2.2.1 - h.2.2.1) (slots := h.2.2.2 - h.2.2.2) (R := (headSpec le_w { frames := d + 7, cells := g.2.2.1 + 1 - h.2.2.1, slots := g.2.2.2 + 6 - h.2.2.2, locals := 64 * (d + 7) }).room) ⟨B.exec, B.bytes, hml, hown, hgw⟩ (le_throw hO hl (le_v hV) hB hb)
        (cwV 2 hgw le_wV rfl rfl rfl (by decide +kernel) ⟨show d + 6 + 1 ≤ d + 7 by omega, show 8 + (3 + 11) + 64 * (d + 6) ≤ 64 * (d + 7) by omega⟩)
        ⟨qa_Pc_blind, va_recv (ci := 10) hX.1 hR1 rfl (qa_obj_ws ho), fun U hU hW => ⟨rfl, hX.move hW (fun a h1 h2 => by rw [hU]; exact hS1.2.1 a h1 h2), by rw [hU]; exact hR1, by rw [hU]; exact Nat.le_trans hb1 hS1.1, by rw [hU]; omega⟩⟩ rfl rfl hL1.1 rfl (by decide) (by decide +kernel) ⟨show h.2.2.1 - h.2.2.1 + (g.2.2.1 + 1 - h.2.2.1) ≤ g.2.2.1 + 1 - h.2.2.1 by omega, show h.2.2.2 - h.2.2.2 + (g.2.2.2 + 6 - h.2.2.2) ≤ g.2.2.2 + 6 - h.2.2.2 by omega⟩
      intro T hT X
      rcases hrun T hT X with ⟨v, s3, t, T', L, h0, X', hLf, e1, e2, hf, -⟩ | ⟨q, s3, t, T', L, E, ce, h0, X', hLf, e1, e2, ⟨hE, hR2, hF⟩, hce, hcv, hcl, st1⟩
      · exact hf.elim
      · subst hE
        obtain ⟨k1, k2, k3⟩ := vx_keep h0 e1 hS1 (fun _ _ z => z) (fun _ z => z) hLf hF
        have hr2 : qa_lm o (qa_cd qc_le) (15, [], [], (g.1, g.2.1, g.2.2.1 + 1, g.2.2.2 + 6)) = some (some (.int 1), (g.1, g.2.1, g.2.2.1 + 1, g.2.2.2 + 6)) := go_c rfl (fin_i rfl rfl rfl)
        obtain ⟨k9, hk9⟩ := qa_lm_run hr2
        have hR3 : qa_R D cA st bs (g.1, g.2.1, g.2.2.1 + 1, g.2.2.2 + 6) T'.heap := by
          rw [e1]
          exact hR2
        have kx : vx_W p l e (headSpec le_w { frames := d + 7, cells := g.2.2.1 + 1 - h.2.2.1, slots := g.2.2.2 + 6 - h.2.2.2, locals := 64 * (d + 7) }).room s m (([Value.ref x, .int p0, .int p1, .ref u]).map (qa_v (qa_ca st bs))).toArray below meth c T'.heap (locs ++ L) (h.2.2.1 - h.2.2.1 + (g.2.2.1 + 1 - h.2.2.1)) (h.2.2.2 - h.2.2.2 + (g.2.2.2 + 6 - h.2.2.2)) (MQ below (qa_Q D cA st bs (some (.int 1), (g.1, g.2.1, g.2.2.1 + 1, g.2.2.2 + 6))) (([Value.ref x, .int p0, .int p1, .ref u]).map (qa_v (qa_ca st bs))).toArray s (g.2.2.1 + 1 - h.2.2.1) (g.2.2.2 + 6 - h.2.2.2) (qa_A bs)) (F0 m 5 ls [Value.int 0, .ref (qa_ca st bs u)]) q := by
          refine vx_catch (own := "SistersBoardLaw") (name := le_n) (E := le_n) (ce := ce) hown [] ⟨0, 10, 13, 13⟩ [] htab (fun z hz => nomatch hz) rfl (by decide) (hgw _ (le_ia _ (List.mem_of_getElem? (i := 5) rfl))) (le_cast hcn) (by rw [e1]; exact hce) hcv hcl ?_
          refine lv_astore (i := 4) (nL := 5) (cc := method_3_code) (pc := 13) B.exec B.bytes (by decide +kernel) hL1.has (by decide) rfl (fun ls2 h2 => ?_)
          rw [Nat.sub_self, Nat.sub_self, Nat.zero_add, Nat.zero_add]
          exact qa_walk (r := (some (.int 1), (g.1, g.2.1, g.2.2.1 + 1, g.2.2.2 + 6))) (n0 := h.2.2.1) (s0 := h.2.2.2) (x := (15, [], [], (g.1, g.2.1, g.2.2.1 + 1, g.2.2.2 + 6))) le_cd hO hBB hX hb1 (show d + 1 ≤ d + 7 by omega) (show 64 * (d + 1) ≤ 64 * (d + 7) by omega) hb2 (Nat.le_refl _) (Nat.le_refl _) hk9 (e := e) (below := below) T'.heap (locs ++ L) ls2 hR3 ⟨h2.1, h2.2.1, fun i v hi => nomatch hi⟩ k3 (show h.2.2.1 ≤ g.2.2.1 + 1 by omega) (show h.2.2.2 ≤ g.2.2.2 + 6 by omega)
        obtain ⟨t2, a1, b1⟩ := kx T' rfl X'
        exact ⟨t2, st1.trans a1, b1⟩) hto (e := e) (below := below) _ _ _ hR (qa_L_entry (av := [.ref x, .int p0, .int p1, .ref u]) (by decide)) va_S.rf (Nat.le_refl _) (Nat.le_refl _)
  dsimp only at hw
  rw [Nat.sub_self, Nat.sub_self] at hw
  exact hw
theorem le_wS : GoodIn qa_GW (va_wsS "SistersBoardLaw" 38 le_y le_w) := fun w hw => by
  rcases List.mem_append.mp hw with q | q
  · simp only [List.mem_cons, List.not_mem_nil, or_false] at q
    rcases q with q | q | q <;> subst q
    · exact ⟨le_ia _ (List.mem_of_getElem? (i := 4) rfl), qa_gw (le_ia _ (List.mem_of_getElem? (i := 4) rfl))⟩
    · exact ⟨le_ia _ (List.mem_of_getElem? (i := 2) rfl), qa_gw (le_ia _ (List.mem_of_getElem? (i := 2) rfl))⟩
    · exact ⟨le_ia _ (List.mem_of_getElem? (i := 3) rfl), qa_gw (le_ia _ (List.mem_of_getElem? (i := 3) rfl))⟩
  · have := le_g (ws := []) q (le_ia _ (List.mem_of_getElem? (i := 1) rfl))
    exact ⟨this, qa_gw this⟩
theorem qs_lev (N : Nat) (xs : Nat → Int32) (nm : String) : qa_SX (qa_Sc N xs) qm qm_nw "SistersBoardLaw" nm code 7 (some .boolean) 346 (qh_lev 349) := by
  intro o d l D cA st bs hO hl
  have key : ∀ L S h y, qh_lev 349 o L S h = some (.inl y) → ∃ (u x : Nat) (p0 p1 : Int32) (S' : List Value) (r : Option Value × qa_H), S = .ref u :: .int p1 :: .int p0 :: .ref x :: S' ∧ (S'.map fun v => v.category).sum ≤ 8 ∧ y = (349, L, r.1.toList ++ S', r.2) ∧ le_M l D cA st bs d [.ref x, .int p0, .int p1, .ref u] h r := by
    intro L S h y hy
    unfold qh_lev at hy
    split at hy
    · rename_i u p1 p0 x S'
      split at hy
      · rename_i hc
        obtain ⟨hc1, hc2⟩ := hc
        split at hy
        · rename_i v g hA
          split at hy
          · rename_i N f ha
            split at hy
            · rename_i hN
              cases hy
              exact ⟨u, x, p0, p1, S', _, rfl, hc1, rfl, le_metA hO hc2 hA ha hN⟩
            · cases hy
          · cases hy
        · cases hy
        · split at hy
          · rename_i b g hB
            split at hy
            · rename_i hb
              cases hy
              exact ⟨u, x, p0, p1, S', _, rfl, hc1, rfl, le_metB hO hl hc2 hB hb⟩
            · cases hy
          · cases hy
      · cases hy
    · cases hy
  refine ⟨fun L S h y hy => ?_, fun L S h r hr => ?_, ?_⟩
  · obtain ⟨u, x, p0, p1, S', r, -, -, rfl, hm, -⟩ := key L S h y hy
    exact hm
  · unfold qh_lev at hr
    repeat' split at hr
    all_goals cases hr
  · intro p e R s m args below meth c B hX hE hbs hfr hlo L S h H locs ls n0 s0 hR hL hS hn0 hs0 hup
    refine ⟨fun y Q hy hcs hss kk => ?_, fun r hr => ?_⟩
    · obtain ⟨u, x, p0, p1, S', r, rfl, hsum, rfl, ⟨hm1, hm2⟩, hM⟩ := key L S h y hy
      dsimp only at hcs hss kk
      refine qa_size (fun hsz => ?_)
      obtain ⟨hx, hb, hml, hown, hts, hr9, hlk, hnam⟩ := B
      have hrun := vx_runSW (g := F0 m 346 ls ((Value.ref u :: .int p1 :: .int p0 :: .ref x :: S').map (qa_v (qa_ca st bs)))) (As := ([Value.ref x, .int p0, .int p1, .ref u]).map (qa_v (qa_ca st bs))) (rest := S'.map (qa_v (qa_ca st bs))) (e := e) (below := below) (meth := meth) (H := H) (locs := locs) (cells := h.2.2.1 - n0) (slots := h.2.2.2 - s0) (cc := code) (nL := 7) (Ts := qa_GW) (own := "SistersBoardLaw") (R := R) ⟨hx, hb, hml, hown, hts⟩ hM (vx_cwSW 4 hts le_wS rfl rfl rfl (by decide +kernel) ⟨show d + 7 + 1 ≤ R.frames by omega, show 8 + (5 + 11) + 64 * (d + 7) ≤ R.locals by omega⟩)
        ⟨qa_Pc_blind, fun U hU hW => ⟨rfl, hX.move hW (fun a h1 h2 => by rw [hU]; exact hS.2.1 a h1 h2), by rw [hU]; exact hR, by rw [hU]; exact Nat.le_trans hbs hS.1, by rw [hU]; omega⟩⟩ rfl rfl hL.1 rfl (qa_sum hsum) (by decide +kernel) ⟨by omega, by omega⟩
      refine qa_call_of hrun hS (fun H1 locs1 hR1 hS1 => ?_)
      have k9 := kk H1 locs1 ls hR1 hL hS1
      rw [show h.2.2.1 - n0 + (r.2.2.2.1 - h.2.2.1) = r.2.2.2.1 - n0 by omega, show h.2.2.2 - s0 + (r.2.2.2.2 - h.2.2.2) = r.2.2.2.2 - s0 by omega]
      rw [List.map_append] at k9
      have e1 : (r.1.toList).map (qa_v (qa_ca st bs)) = (r.1.map (qa_v (qa_ca st bs))).toList := by cases r.1 <;> rfl
      rw [e1] at k9
      exact k9
    · unfold qh_lev at hr
      repeat' split at hr
      all_goals cases hr
