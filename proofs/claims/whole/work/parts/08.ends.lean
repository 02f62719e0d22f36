/-! Object's own start, ends of methods, what stands outside -/
theorem qa_catsum {ca : Nat → Nat} {S : List Value} : ((S.map (qa_v ca)).map fun v => v.category).sum = (S.map fun v => v.category).sum := by
  rw [List.map_map]
  congr 1
  apply List.map_congr_left
  intro v _
  exact qa_cat _ v
def qh_oi (n : Nat) : qa_J := fun L S h => match S with
  | .ref _ :: S => if (S.map fun v => v.category).sum ≤ 8 then some (n, L, S, h) else none
  | _ => none
theorem qs_oi {NW : List (String × Nat × MethodName × String)} {own nm : String} {cc : ByteArray} {nL pc i : Nat} (hw : Cond.methodLink own i objectInit ∈ qa_GW) (hw2 : Cond.instanceMethod objectInit ∈ qa_GW) (hw3 : Cond.code objectInit ⟨#[0xb1]⟩ 1 none ∈ qa_GW) (hd : decode cc pc = .ok (.invokespecial i, 3)) : qa_QW NW own nm cc nL pc (qh_oi (pc + 3)) := by
  refine ⟨fun L S h y hy => ?_, ?_⟩
  · unfold qh_oi at hy
    split at hy
    · split at hy
      · cases hy
        exact ⟨Nat.le_refl _, Nat.le_refl _⟩
      · cases hy
    · cases hy
  · intro ret D cA st bs p l e R s m args below meth c H locs n0 s0 Q ls L S h y B hX hbs hfr hlo hy hR hL hS hn0 hs0 hup hcs hss kk
    obtain ⟨hx, hb, hml, hown, hts, hr, hlk, hnam⟩ := B
    unfold qh_oi at hy
    split at hy
    · rename_i a S'
      split at hy
      · rename_i hsum
        cases hy
        have e := qa_catsum (ca := qa_ca st bs) (S := S')
        refine W.objInit hx hb hown (hts _ hw) (hts _ hw2) (hts _ hw3) rfl (by rw [hml]; exact hL.1) rfl hd hfr ?_ ?_
        · show 2 * 0 + (List.map (fun v => v.category) (List.map (qa_v (qa_ca st bs)) S')).sum + 12 ≤ R.locals
          omega
        · exact kk H locs ls hR hL hS
      · cases hy
    · cases hy
/-- ends: the value that is left, the heap as it is -/
def qa_r (g : List Value → Option (Option Value)) : qa_Op := fun _ _ S h => match g S with
  | none => none
  | some v => some (.inr (v, h))
def qg_i (ty : FieldType) : List Value → Option (Option Value) := fun S => match S with
  | [.int v] => if narrow ty (.int v) = .int v then some (some (.int v)) else none
  | _ => none
def qg_l : List Value → Option (Option Value) := fun S => match S with
  | [.long v] => some (some (.long v))
  | _ => none
def qg_a : List Value → Option (Option Value) := fun S => match S with
  | [.ref v] => some (some (.ref v))
  | [.null] => some (some .null)
  | _ => none
def qg_v : List Value → Option (Option Value) := fun S => match S with
  | [] => some none
  | _ => none
theorem qa_SW.r {M : qa_N} {NW : List (String × Nat × MethodName × String)} {own nm : String} {cc : ByteArray} {nL : Nat} {ret : Option FieldType} {pc : Nat} {g : List Value → Option (Option Value)} (hg : ∀ {p : Program} {l : Launch} {e : Env} {R : Room} {s : State} {m : MethodId} {args : Array Value} {below : List Frame} {meth : Method} {c : Code} {H : Heap} {locs : List Loc} {cells slots : Nat} {ls : Array Slot} {ca : Nat → Nat} {Qc : Array Value → State → Outcome → State → Prop} {free : Addr → Prop} {S : List Value} {v : Option Value}, qa_B own nm cc nL ret p s m args meth c → g S = some v → (∀ t : State, t.heap = H → s.WarmedH t.vm → Qc args s (.returned (v.map (qa_v ca))) t) → (∀ q ∈ locs, free q.base) → W p l e R s m args below meth c H locs cells slots (MQ below Qc args s cells slots free) (F0 m pc ls (S.map (qa_v ca)))) : qa_SW M NW own nm cc nL ret pc (qa_r g) := by
  intro o d l D cA st bs hO
  refine ⟨fun L S h y hy => ?_, fun L S h r hr => ?_, ?_⟩
  · unfold qa_r at hy
    split at hy <;> cases hy
  · unfold qa_r at hr
    split at hr
    · cases hr
    · cases hr
      rfl
  · intro p e R s m args below meth c B hX hbs hfr hlo L S h H locs ls n0 s0 hR hL hS hn0 hs0 hup
    refine ⟨fun y Q hy => ?_, fun r hr => ?_⟩
    · unfold qa_r at hy
      split at hy <;> cases hy
    · unfold qa_r at hr
      split at hr
      · cases hr
      · rename_i v hv
        cases hr
        exact hg B hv (fun t ht hW => ⟨rfl, by rw [ht]; exact hR, hS.F ht⟩) hS.2.2
theorem qs_ireturn {M : qa_N} {NW : List (String × Nat × MethodName × String)} {own nm : String} {cc : ByteArray} {nL pc : Nat} {ty : FieldType} (hd : decode cc pc = .ok (.ireturn, 1)) : qa_SW M NW own nm cc nL (some ty) pc (qa_r (qg_i ty)) := by
  refine qa_SW.r (fun {p l e R s m args below meth c H locs cells slots ls ca Qc free S v} B hv hq hf => ?_)
  obtain ⟨hx, hb, hml, hown, hts, hr, hlk, hnam⟩ := B
  unfold qg_i at hv
  split at hv
  · split at hv
    · rename_i hn
      cases hv
      exact W.zret hx hb hr hn hq hf hd hlk
    · cases hv
  · cases hv
theorem qs_lreturn {M : qa_N} {NW : List (String × Nat × MethodName × String)} {own nm : String} {cc : ByteArray} {nL pc : Nat} (hd : decode cc pc = .ok (.lreturn, 1)) : qa_SW M NW own nm cc nL (some .long) pc (qa_r qg_l) := by
  refine qa_SW.r (fun {p l e R s m args below meth c H locs cells slots ls ca Qc free S v} B hv hq hf => ?_)
  obtain ⟨hx, hb, hml, hown, hts, hr, hlk, hnam⟩ := B
  unfold qg_l at hv
  split at hv
  · cases hv
    exact W.lret hx hb hr hq hf hd hlk
  · cases hv
theorem qs_return {M : qa_N} {NW : List (String × Nat × MethodName × String)} {own nm : String} {cc : ByteArray} {nL pc : Nat} (hd : decode cc pc = .ok (.return_, 1)) : qa_SW M NW own nm cc nL none pc (qa_r qg_v) := by
  refine qa_SW.r (fun {p l e R s m args below meth c H locs cells slots ls ca Qc free S v} B hv hq hf => ?_)
  obtain ⟨hx, hb, hml, hown, hts, hr, hlk, hnam⟩ := B
  unfold qg_v at hv
  split at hv
  · cases hv
    exact W.vret hx hb hr hq hf hd hlk
  · cases hv
theorem qs_areturn {M : qa_N} {NW : List (String × Nat × MethodName × String)} {own nm C : String} {cc : ByteArray} {nL pc : Nat} (hd : decode cc pc = .ok (.areturn, 1)) : qa_SW M NW own nm cc nL (some (.object C)) pc (qa_r qg_a) := by
  refine qa_SW.r (fun {p l e R s m args below meth c H locs cells slots ls ca Qc free S v} B hv hq hf => ?_)
  obtain ⟨hx, hb, hml, hown, hts, hr, hlk, hnam⟩ := B
  unfold qg_a at hv
  split at hv
  · cases hv
    exact W.aret hx hb hr (Or.inl ⟨_, rfl⟩) (Or.inr ⟨_, rfl⟩) hq hf hd hlk
  · cases hv
    exact W.aret hx hb hr (Or.inl ⟨_, rfl⟩) (Or.inl rfl) hq hf hd hlk
  · cases hv
/-! what stands outside -/
theorem qs_gets {own C n d : String} {cc : ByteArray} {nL pc i : Nat} {v : Value} (hz : (C, n, d, v) ∈ qw_Z) (hw : Cond.fieldLink own i C n d ∈ qa_GW) (hd : decode cc pc = .ok (.getstatic i, 3)) : qa_PS own cc nL pc (qp_c v (pc + 3)) := by
  intro nm ret st bs p l e R s m args below meth c H locs cells slots Q B hY hS L S z ls hg hl k
  obtain ⟨hx, hb, hml, hown, hts, -⟩ := B
  cases hg
  exact va_gets hx hb (hY.1 _ hz) hS hown (hts _ hw) (fun _ h9 => h9) hd (k ls hl)
/-- a field of an object that stands outside: by the object -/
def qp_sf (tb : Nat → Option Value) (n : Nat) : qa_P := fun L S => match S with
  | .ref a :: S => match tb a with
    | some v => some (n, L, v :: S)
    | none => none
  | _ => none
theorem qs_sf {own o n d : String} {cc : ByteArray} {nL pc i : Nat} {tb : Nat → Option Value} (hz : ∀ a v, tb a = some v → a < 64 ∧ (a, o, n, d, v) ∈ qw_F) (hw : Cond.fieldLink own i o n d ∈ qa_GW) (hd : decode cc pc = .ok (.getfield i, 3)) : qa_PS own cc nL pc (qp_sf tb (pc + 3)) := by
  intro nm ret st bs p l e R s m args below meth c H locs cells slots Q B hY hS L S z ls hg hl k
  obtain ⟨hx, hb, hml, hown, hts, -⟩ := B
  unfold qp_sf at hg
  split at hg
  · rename_i a S'
    split at hg
    · rename_i v hv
      cases hg
      obtain ⟨ha, hF⟩ := hz a v hv
      obtain ⟨cf, k1, fi, f, cell, h1, h2, h3, h4, h5, h6⟩ := (hY.2.1 _ hF).kept hS.2.1
      have e1 : qa_v (qa_ca st bs) (.ref a) = .ref (st a) := by
        show Value.ref (qa_ca st bs a) = _
        unfold qa_ca
        rw [if_pos ha]
      rw [List.map_cons, e1]
      exact W.getf hx hb hown (hts _ hw) h1 h2 h3 h4 h5 rfl rfl hd (k ls hl)
    · cases hg
  · cases hg
def qp_sa (tb : Nat → Option (List Value)) (n : Nat) : qa_P := fun L S => match S with
  | .int i :: .ref a :: S => match tb a with
    | some vs => if i < 0 then none else match vs[i.toNatClampNeg]? with
      | some v => some (n, L, v :: S)
      | none => none
    | none => none
  | _ => none
def qp_sn (tb : Nat → Option (List Value)) (n : Nat) : qa_P := fun L S => match S with
  | .ref a :: S => match tb a with
    | some vs => some (n, L, .int (Int32.ofNat vs.length) :: S)
    | none => none
  | _ => none
theorem qs_sn {own : String} {cc : ByteArray} {nL pc : Nat} {tb : Nat → Option (List Value)} {ty : FieldType} (hz : ∀ a vs, tb a = some vs → a < 64 ∧ (a, ty, vs) ∈ qw_T) (hd : decode cc pc = .ok (.arraylength, 1)) : qa_PS own cc nL pc (qp_sn tb (pc + 1)) := by
  intro nm ret st bs p l e R s m args below meth c H locs cells slots Q B hY hS L S z ls hg hl k
  obtain ⟨hx, hb, hml, hown, hts, -⟩ := B
  unfold qp_sn at hg
  split at hg
  · rename_i a S'
    split at hg
    · rename_i vs hv
      cases hg
      obtain ⟨ha, hF⟩ := hz a vs hv
      obtain ⟨cell, h1, h2, h3, h4, h5, h6, h7⟩ := (hY.2.2.1 _ hF).kept hS.2.1
      have e1 : qa_v (qa_ca st bs) (.ref a) = .ref (st a) := by
        show Value.ref (qa_ca st bs a) = _
        unfold qa_ca
        rw [if_pos ha]
      rw [List.map_cons, e1]
      exact W.alen hx hb h1 h2 h5 rfl rfl hd (k ls hl)
    · cases hg
  · cases hg
theorem qa_sa_at {st : Nat → Nat} {bs : Nat} {s : State} {H : Heap} {locs : List Loc} {a : Nat} {ty : FieldType} {vs : List Value} {i : Int32} {v : Value} (hY : qa_Y st bs s) (hS : va_S (qa_A bs) s.heap H locs) (hF : (a, ty, vs) ∈ qw_T) (h0 : ¬ i < 0) (hv : vs[i.toNatClampNeg]? = some v) : ∃ cell : Cell, H[st a]? = some cell ∧ s.isArrayOf cell ty ∧ cell.vm ≠ .unknown ∧ ¬ (i < 0 ∨ cell.slots.size ≤ i.toNatClampNeg) ∧ cell.slots[i.toNatClampNeg]? = some (qa_v (qa_ca st bs) v) := by
  obtain ⟨cell, h1, h2, h3, h4, h5, h6, h7⟩ := (hY.2.2.1 _ hF).kept hS.2.1
  have hl : i.toNatClampNeg < vs.length := (List.getElem?_eq_some_iff.mp hv).1
  have h8 := h6 i.toNatClampNeg hl
  refine ⟨cell, h1, h2, h3, fun q => ?_, ?_⟩
  · rcases q with q | q
    · exact h0 q
    · dsimp only at h4
      omega
  · rw [h8]
    dsimp only
    rw [List.getD_eq_getElem?_getD, hv]
    rfl
theorem qs_saa {own C : String} {cc : ByteArray} {nL pc : Nat} {tb : Nat → Option (List Value)} (hz : ∀ a vs, tb a = some vs → a < 64 ∧ (a, .object C, vs) ∈ qw_T) (hd : decode cc pc = .ok (.aaload, 1)) : qa_PS own cc nL pc (qp_sa tb (pc + 1)) := by
  intro nm ret st bs p l e R s m args below meth c H locs cells slots Q B hY hS L S z ls hg hl k
  obtain ⟨hx, hb, hml, hown, hts, -⟩ := B
  unfold qp_sa at hg
  split at hg
  · rename_i i a S'
    split at hg
    · rename_i vs hv
      split at hg
      · cases hg
      · rename_i h0
        split at hg
        · rename_i v hv2
          cases hg
          obtain ⟨ha, hF⟩ := hz a vs hv
          obtain ⟨cell, h1, h2, h3, h4, h5⟩ := qa_sa_at hY hS hF h0 hv2
          have e1 : qa_v (qa_ca st bs) (.ref a) = .ref (st a) := by
            show Value.ref (qa_ca st bs a) = _
            unfold qa_ca
            rw [if_pos ha]
          rw [List.map_cons, List.map_cons, e1]
          exact W.aald hx hb h1 h2 rfl h3 h4 h5 rfl rfl hd (k ls hl)
        · cases hg
    · cases hg
  · cases hg
theorem qs_sab {own : String} {cc : ByteArray} {nL pc : Nat} {tb : Nat → Option (List Value)} (hz : ∀ a vs, tb a = some vs → a < 64 ∧ (a, .byte, vs) ∈ qw_T) (hd : decode cc pc = .ok (.baload, 1)) : qa_PS own cc nL pc (qp_sa tb (pc + 1)) := by
  intro nm ret st bs p l e R s m args below meth c H locs cells slots Q B hY hS L S z ls hg hl k
  obtain ⟨hx, hb, hml, hown, hts, -⟩ := B
  unfold qp_sa at hg
  split at hg
  · rename_i i a S'
    split at hg
    · rename_i vs hv
      split at hg
      · cases hg
      · rename_i h0
        split at hg
        · rename_i v hv2
          cases hg
          obtain ⟨ha, hF⟩ := hz a vs hv
          obtain ⟨cell, h1, h2, h3, h4, h5⟩ := qa_sa_at hY hS hF h0 hv2
          have e1 : qa_v (qa_ca st bs) (.ref a) = .ref (st a) := by
            show Value.ref (qa_ca st bs a) = _
            unfold qa_ca
            rw [if_pos ha]
          rw [List.map_cons, List.map_cons, e1]
          exact W.bald hx hb h1 h2 h3 h4 h5 rfl rfl hd (k ls hl)
        · cases hg
    · cases hg
  · cases hg
/-- a constant of the enum into an array of the world -/
def qh_wast (n : Nat) : qa_J := fun L S h => match S with
  | .ref v :: .int i :: .ref a :: S => match qa_arr h a 5 with
    | some (N, .inr (.inr (.inr (.inr f)))) => if 23 ≤ v ∨ i < 0 ∨ N ≤ i.toNatClampNeg then none else some (n, L, S, (qa_up h.1 a (.inl (5, N, .inr (.inr (.inr (.inr (va_up f i.toNatClampNeg (some v))))))), h.2))
    | _ => none
  | .null :: .int i :: .ref a :: S => match qa_arr h a 5 with
    | some (N, .inr (.inr (.inr (.inr f)))) => if i < 0 ∨ N ≤ i.toNatClampNeg then none else some (n, L, S, (qa_up h.1 a (.inl (5, N, .inr (.inr (.inr (.inr (va_up f i.toNatClampNeg none)))))), h.2))
    | _ => none
  | _ => none
theorem qs_wast {NW : List (String × Nat × MethodName × String)} {own nm : String} {cc : ByteArray} {nL pc : Nat} (hd : decode cc pc = .ok (.aastore, 1)) : qa_QW NW own nm cc nL pc (qh_wast (pc + 1)) := by
  refine ⟨fun L S h y hy => ?_, ?_⟩
  · unfold qh_wast at hy
    split at hy
    · split at hy
      · split at hy
        · cases hy
        · cases hy
          exact ⟨Nat.le_refl _, Nat.le_refl _⟩
      · cases hy
    · split at hy
      · split at hy
        · cases hy
        · cases hy
          exact ⟨Nat.le_refl _, Nat.le_refl _⟩
      · cases hy
    · cases hy
  · intro ret D cA st bs p l e R s m args below meth c H locs n0 s0 Q ls L S h y B hX hbs hfr hlo hy hR hL hS hn0 hs0 hup hcs hss kk
    obtain ⟨hx, hb, hml, hown, hts, hr, hlk, hnam⟩ := B
    unfold qh_wast at hy
    split at hy
    · rename_i v i a S'
      split at hy
      · rename_i N f ha
        split at hy
        · cases hy
        · rename_i hin
          cases hy
          obtain ⟨⟨h1, h2⟩, h3⟩ := qa_arr_at ha
          have hv : v < 23 := Nat.not_le.mp fun q => hin (Or.inl q)
          obtain ⟨cell, g1, g2, g3, g4⟩ := (hX.2.2.2.2.2.2.1 (v, qw_E) (List.mem_append_left _ (List.mem_map.mpr ⟨v, List.mem_range.mpr hv, rfl⟩))).kept hS.2.1
          dsimp only at g1 g3
          have e1 : qa_ca st bs v = st v := by
            unfold qa_ca
            rw [if_pos (Nat.lt_of_lt_of_le hv (by decide))]
          have hany : va_Any "SistersBoard$Word" s H (qa_ca st bs v) := by
            rw [e1]
            obtain ⟨kC, hkC, -⟩ := Vm.findClass_spec g3
            exact ⟨cell, g1, g2, ⟨kC, hkC⟩, fun comp hcomp => by
              have : cell.cls = comp := Option.some.inj (g3.symm.trans hcomp)
              rw [this]
              exact va_asg _ _⟩
          refine va_astqM hx hb hX.1 hR qa_ws_D hS _ 5 (qa_arr_ws ha) rfl hany (fun q => hin (Or.inr q)) hd (fun H1 locs1 hP1 hD1 hS1 => kk H1 locs1 ls (qa_R_set h1 h2 ?_) hL hS1)
          have e := qa_up_map (qa_ca st bs) f i.toNatClampNeg (some v)
          dsimp only [Option.map_some] at e
          rw [e] at hP1
          exact hP1
      · cases hy
    · rename_i i a S'
      split at hy
      · rename_i N f ha
        split at hy
        · cases hy
        · rename_i hin
          cases hy
          obtain ⟨⟨h1, h2⟩, h3⟩ := qa_arr_at ha
          refine va_astqN hx hb hX.1 hR qa_ws_D hS _ 5 (qa_arr_ws ha) rfl hin hd (fun H1 locs1 hP1 hD1 hS1 => kk H1 locs1 ls (qa_R_set h1 h2 ?_) hL hS1)
          have e := qa_up_map (qa_ca st bs) f i.toNatClampNeg none
          dsimp only [Option.map_none] at e
          rw [e] at hP1
          exact hP1
      · cases hy
    · cases hy
