theorem qa_sO (a : Nat) (h1 : 25 ≤ a) (h2 : a < 28) : (a, "java/lang/String") ∈ qw_O := List.mem_append_right _ (List.mem_map.mpr ⟨a - 25, List.mem_range.mpr (by omega), by rw [show 25 + (a - 25) = a by omega]⟩)
theorem qk_string {M : qa_N} {NW : List (String × Nat × MethodName × String)} {own nm : String} {cc : ByteArray} {nL pc i k ix : Nat} (hw : Cond.code (M i).1 (M i).2.1 (M i).2.2.1 (M i).2.2.2 ∈ qa_GW) (hw1 : Cond.methodLink own ix (M i).1 ∈ qa_GW) (hw2 : Cond.instanceMethod (M i).1 ∈ qa_GW) (hw3 : Cond.selects "java/lang/String" (M i).1 (M i).1 ∈ qa_GW) (hw4 : Cond.initialized "java/lang/String" ∈ qa_GW) (hm : (M i).2.2.1 ≤ 45)
    (hd0 : (M i).1.cls = "java/lang/String" ∧ (M i).1.cls ≠ "java/lang/invoke/MethodHandle" ∧ (M i).1.cls ≠ "java/lang/invoke/VarHandle" ∧ (parseMethodDescriptor (M i).1.desc).map (fun d => d.parameters.length) = some k) (hd : decode cc pc = .ok (.invokevirtual ix, 3)) : qa_CK M NW qv_s own nm cc nL pc i (k + 1) := by
  intro d ret D cA st bs p l e R s m args below meth c H locs n0 s0 mc ms ls As S rest h r B hX hS hfr hlo hR hls hSe hna hsum hV hM hc1 hc2 hpre
  obtain ⟨hx, hb, hml, hown, hts, hr, hlk, hnam⟩ := B
  cases As with
  | nil => cases hV
  | cons a0 As' =>
    unfold qv_s at hV
    split at hV
    · rename_i a As2 heq
      cases heq
      have ha : 25 ≤ (a : Nat) ∧ (a : Nat) < 28 := of_decide_eq_true hV
      have hg : GoodIn qa_GW (wsV own ix "java/lang/String" (M i).1 (qa_mw M i)) := fun w hw9 => by
        rcases List.mem_append.mp hw9 with q | q
        · simp only [List.mem_cons, List.not_mem_nil, or_false] at q
          rcases q with q | q | q | q <;> subst q
          · exact ⟨hw1, qa_gw hw1⟩
          · exact ⟨hw2, qa_gw hw2⟩
          · exact ⟨hw3, qa_gw hw3⟩
          · exact ⟨hw4, qa_gw hw4⟩
        · exact qa_good hw w q
      have e1 : qa_ca st bs a = st a := by
        unfold qa_ca
        rw [if_pos (Nat.lt_of_lt_of_le ha.2 (by decide))]
      have hO : (a, "java/lang/String") ∈ qw_O := qa_sO a ha.1 ha.2
      obtain ⟨cell, g1, g2, g3, g4⟩ := (hX.2.2.2.2.2.2.1 _ hO).kept hS.2.1
      subst hSe
      have key := va_runV (g := F0 m pc ls ((((Value.ref a :: As').reverse ++ rest)).map (qa_v (qa_ca st bs)))) (b := qa_ca st bs a) (As := As'.map (qa_v (qa_ca st bs))) (rest := rest.map (qa_v (qa_ca st bs))) (e := e) (below := below) (meth := meth) (locs := locs) (cells := h.2.2.1 - n0) (slots := h.2.2.2 - s0) ⟨hx, hb, hml, hown, hts⟩ hM
        (cwV k hts hg rfl rfl rfl hd0 ⟨hfr, by show 8 + ((M i).2.2.1 + 11) + 64 * d ≤ R.locals; omega⟩)
        ⟨qa_Pc_blind, ⟨cell, by rw [e1]; exact g1, g2, g3⟩, hpre⟩ rfl (by rw [List.length_map]; simp only [List.length_cons] at hna; omega) hls (by simp [qa_v]) (qa_sum hsum) hd ⟨hc1, hc2⟩
      exact key
    · cases hV
theorem qk_static {M : qa_N} {NW : List (String × Nat × MethodName × String)} {own nm : String} {cc : ByteArray} {nL pc i k ix : Nat} (hw : Cond.code (M i).1 (M i).2.1 (M i).2.2.1 (M i).2.2.2 ∈ qa_GW) (hw1 : Cond.methodLink own ix (M i).1 ∈ qa_GW) (hw2 : Cond.static (M i).1 ∈ qa_GW) (hw3 : Cond.initialized (M i).1.cls ∈ qa_GW) (hm : (M i).2.2.1 ≤ 45)
    (hd0 : (M i).1.cls ≠ "java/lang/invoke/MethodHandle" ∧ (M i).1.cls ≠ "java/lang/invoke/VarHandle" ∧ (parseMethodDescriptor (M i).1.desc).map (fun d => d.parameters.length) = some k) (hd : decode cc pc = .ok (.invokestatic ix, 3)) : qa_CK M NW qv_n own nm cc nL pc i k := by
  intro d ret D cA st bs p l e R s m args below meth c H locs n0 s0 mc ms ls As S rest h r B hX hS hfr hlo hR hls hSe hna hsum hV hM hc1 hc2 hpre
  obtain ⟨hx, hb, hml, hown, hts, hr, hlk, hnam⟩ := B
  have hg : GoodIn qa_GW (va_wsS own ix (M i).1 (qa_mw M i)) := fun w hw9 => by
    rcases List.mem_append.mp hw9 with q | q
    · simp only [List.mem_cons, List.not_mem_nil, or_false] at q
      rcases q with q | q | q <;> subst q
      · exact ⟨hw1, qa_gw hw1⟩
      · exact ⟨hw2, qa_gw hw2⟩
      · exact ⟨hw3, qa_gw hw3⟩
    · exact qa_good hw w q
  subst hSe
  have key := va_runS (g := F0 m pc ls ((As.reverse ++ rest).map (qa_v (qa_ca st bs)))) (As := As.map (qa_v (qa_ca st bs))) (rest := rest.map (qa_v (qa_ca st bs))) (e := e) (below := below) (meth := meth) (locs := locs) (cells := h.2.2.1 - n0) (slots := h.2.2.2 - s0) ⟨hx, hb, hml, hown, hts⟩ hM
    (va_cwS k hts hg rfl rfl rfl hd0 ⟨hfr, by show 8 + ((M i).2.2.1 + 11) + 64 * d ≤ R.locals; omega⟩)
    ⟨qa_Pc_blind, hpre⟩ rfl (by rw [List.length_map]; exact hna) hls (by simp) (qa_sum hsum) hd ⟨hc1, hc2⟩
  exact key
theorem qk_init {M : qa_N} {NW : List (String × Nat × MethodName × String)} {own nm : String} {cc : ByteArray} {nL pc i k ix ci : Nat} (hret : (M i).2.2.2 = none) (hw : Cond.code (M i).1 (M i).2.1 (M i).2.2.1 (M i).2.2.2 ∈ qa_GW) (hw1 : Cond.methodLink own ix (M i).1 ∈ qa_GW) (hw2 : Cond.instanceMethod (M i).1 ∈ qa_GW) (hw3 : Cond.initialized (M i).1.cls ∈ qa_GW) (hm : (M i).2.2.1 ≤ 45) (hn : (M i).1.name = "<init>")
    (hd0 : (M i).1.cls ≠ "java/lang/invoke/MethodHandle" ∧ (M i).1.cls ≠ "java/lang/invoke/VarHandle" ∧ (parseMethodDescriptor (M i).1.desc).map (fun d => d.parameters.length) = some k) (hd : decode cc pc = .ok (.invokespecial ix, 3)) : qa_CK M NW (qv_o ci) own nm cc nL pc i (k + 1) := by
  intro d ret D cA st bs p l e R s m args below meth c H locs n0 s0 mc ms ls As S rest h r B hX hS hfr hlo hR hls hSe hna hsum hV hM hc1 hc2 hpre
  obtain ⟨hx, hb, hml, hown, hts, hr, hlk, hnam⟩ := B
  cases As with
  | nil => cases hV
  | cons a0 As' =>
    unfold qv_o at hV
    split at hV
    · rename_i a As2 heq
      cases heq
      subst hSe
      have hgm := qa_good hw
      unfold qa_mw at hgm hM
      rw [hret] at hgm hM
      have key := va_runI (g := F0 m pc ls ((((Value.ref a :: As').reverse ++ rest)).map (qa_v (qa_ca st bs)))) (b := qa_ca st bs a) (As := As'.map (qa_v (qa_ca st bs))) (rest := rest.map (qa_v (qa_ca st bs))) (e := e) (below := below) (meth := meth) (locs := locs) (cells := h.2.2.1 - n0) (slots := h.2.2.2 - s0) ⟨hx, hb, hml, hown, hts⟩ hM
        (cwI k hts hgm rfl rfl rfl (hts _ hw3) (hts _ hw1) (hts _ hw2) hn hd0 ⟨hfr, by show 8 + ((M i).2.2.1 + 11) + 64 * d ≤ R.locals; omega⟩)
        ⟨qa_Pc_blind, hpre⟩ rfl (by rw [List.length_map]; simp only [List.length_cons] at hna; omega) hls (by simp [qa_v]) (qa_sum hsum) hd ⟨hc1, hc2⟩
      exact key
    · cases hV
theorem qk_nest {M : qa_N} {NW : List (String × Nat × MethodName × String)} {own nm host : String} {cc : ByteArray} {nL pc i k ix ci : Nat} (hret : (M i).2.2.2 = none) (hw : Cond.code (M i).1 (M i).2.1 (M i).2.2.1 (M i).2.2.2 ∈ qa_GW) (hw1 : (own, ix, (M i).1, host) ∈ NW) (hw2 : Cond.instanceMethod (M i).1 ∈ qa_GW) (hw3 : Cond.initialized (M i).1.cls ∈ qa_GW) (hm : (M i).2.2.1 ≤ 45) (hn : (M i).1.name = "<init>")
    (hd0 : (M i).1.cls ≠ "java/lang/invoke/MethodHandle" ∧ (M i).1.cls ≠ "java/lang/invoke/VarHandle" ∧ (parseMethodDescriptor (M i).1.desc).map (fun d => d.parameters.length) = some k) (hd : decode cc pc = .ok (.invokespecial ix, 3)) : qa_CK M NW (qv_o ci) own nm cc nL pc i (k + 1) := by
  intro d ret D cA st bs p l e R s m args below meth c H locs n0 s0 mc ms ls As S rest h r B hX hS hfr hlo hR hls hSe hna hsum hV hM hc1 hc2 hpre
  obtain ⟨hx, hb, hml, hown, hts, hr, hlk, hnam⟩ := B
  cases As with
  | nil => cases hV
  | cons a0 As' =>
    unfold qv_o at hV
    split at hV
    · rename_i a As2 heq
      cases heq
      subst hSe
      have hgm := qa_good hw
      unfold qa_mw at hgm hM
      rw [hret] at hgm hM
      have key := va_runIN (g := F0 m pc ls ((((Value.ref a :: As').reverse ++ rest)).map (qa_v (qa_ca st bs)))) (b := qa_ca st bs a) (As := As'.map (qa_v (qa_ca st bs))) (rest := rest.map (qa_v (qa_ca st bs))) (e := e) (below := below) (meth := meth) (locs := locs) (cells := h.2.2.1 - n0) (slots := h.2.2.2 - s0) ⟨hx, hb, hml, hown, hts⟩ hM
        ⟨va_cnB k hts hgm rfl rfl rfl (hX.2.1 _ hw1) (hts _ hw3) hd0 ⟨hfr, by show 8 + ((M i).2.2.1 + 11) + 64 * d ≤ R.locals; omega⟩, hn, hts _ hw2⟩
        ⟨qa_Pc_blind, hpre⟩ rfl (by rw [List.length_map]; simp only [List.length_cons] at hna; omega) hls (by simp [qa_v]) (qa_sum hsum) hd ⟨hc1, hc2⟩
      exact key
    · cases hV
/-! a whole method -/
def qa_ent0 (av : List Value) : List Value := av.flatMap fun v => if v.category = 2 then [v, .retAddr 0] else [v]
def qa_ent (nL : Nat) (av : List Value) : List Value := qa_ent0 av ++ List.replicate (nL - (qa_ent0 av).length) (.retAddr 0)
theorem qa_ent0_len {ca : Nat → Nat} : ∀ av : List Value, (lg_sl (av.map (qa_v ca))).length = (qa_ent0 av).length
  | [] => rfl
  | v :: av => by
    have ih := qa_ent0_len (ca := ca) av
    unfold lg_sl qa_ent0 at *
    rw [List.map_cons, List.flatMap_cons, List.flatMap_cons, List.length_append, List.length_append, ih, qa_cat]
    split <;> rfl
theorem qa_ent0_at {ca : Nat → Nat} {v : Value} (hn : ∀ z, v ≠ .retAddr z) : ∀ (av : List Value) (i j : Nat), (qa_ent0 av)[j]? = some v → (i + j, qa_v ca v) ∈ lv_args i (av.map (qa_v ca))
  | [], i, j, h => by simp [qa_ent0] at h
  | u :: av, i, j, h => by
    unfold qa_ent0 at h
    rw [List.flatMap_cons] at h
    rw [List.map_cons]
    unfold lv_args
    rw [qa_cat]
    by_cases hc : u.category = 2
    · rw [if_pos hc] at h ⊢
      match j, h with
      | 0, h => cases h; exact List.mem_cons_self
      | 1, h => cases h; exact absurd rfl (hn 0)
      | j + 2, h =>
        have := qa_ent0_at (ca := ca) hn av (i + 2) j h
        rw [show i + (j + 2) = i + 2 + j by omega]
        exact List.mem_cons_of_mem _ this
    · rw [if_neg hc] at h ⊢
      match j, h with
      | 0, h => cases h; exact List.mem_cons_self
      | j + 1, h =>
        have := qa_ent0_at (ca := ca) hn av (i + 1) j h
        rw [show i + (j + 1) = i + 1 + j by omega]
        exact List.mem_cons_of_mem _ this
theorem qa_L_entry {ca : Nat → Nat} {nL : Nat} {av : List Value} (hlen : (qa_ent0 av).length ≤ nL) : qa_L ca nL (qa_ent nL av) ((lg_sl (av.map (qa_v ca)) ++ List.replicate (nL - (lg_sl (av.map (qa_v ca))).length) Slot.unset).toArray) := by
  have hl := lv_entry (av.map (qa_v ca)) (n := nL) (by rw [qa_ent0_len]; exact hlen)
  refine ⟨hl.1, hl.2.1, fun j v hj hn => ?_⟩
  unfold qa_ent at hj
  rw [List.getElem?_append] at hj
  split at hj
  · have := qa_ent0_at (ca := ca) hn av 0 j hj
    rw [Nat.zero_add] at this
    exact hl.2.2 _ this
  · rw [List.getElem?_replicate] at hj
    split at hj
    · cases hj; exact absurd rfl (hn 0)
    · cases hj
theorem qa_run_up {M : qa_N} {NW : List (String × Nat × MethodName × String)} {own nm : String} {cc : ByteArray} {nL : Nat} {ret : Option FieldType} {cd : qa_Cd} (hcd : ∀ pc op, cd pc = some op → qa_SW M NW own nm cc nL ret pc op) {o : qa_O} {d : Nat} {l : Launch} {D : va_G} {cA : Nat → ClassId} {st : Nat → Nat} {bs : Nat} (hO : qa_OK M NW l D cA st bs d o) : ∀ {k : Nat} {x : qa_F} {r : Option Value × qa_H}, qa_run o cd k x = some r → x.2.2.2.2.2.1 ≤ r.2.2.2.1 ∧ x.2.2.2.2.2.2 ≤ r.2.2.2.2
  | 0, x, r, h => by cases h
  | k + 1, x, r, h => by
    unfold qa_run at h
    cases hc : cd x.1 with
    | none => rw [hc] at h; cases h
    | some op =>
      rw [hc] at h
      dsimp only at h
      obtain ⟨m1, m2, -⟩ := hcd _ _ hc hO
      cases ho : op o x.2.1 x.2.2.1 x.2.2.2 with
      | none => rw [ho] at h; cases h
      | some z =>
        rw [ho] at h
        cases z with
        | inl y =>
          have h1 := m1 _ _ _ _ ho
          have h2 := qa_run_up hcd hO h
          exact ⟨Nat.le_trans h1.1 h2.1, Nat.le_trans h1.2 h2.2⟩
        | inr q =>
          have h1 := m2 _ _ _ _ ho
          cases h
          rw [h1]
          exact ⟨Nat.le_refl _, Nat.le_refl _⟩
theorem qa_walk {M : qa_N} {NW : List (String × Nat × MethodName × String)} {own nm : String} {cc : ByteArray} {nL : Nat} {ret : Option FieldType} {cd : qa_Cd} (hcd : ∀ pc op, cd pc = some op → qa_SW M NW own nm cc nL ret pc op) {o : qa_O} {d : Nat} {l : Launch} {D : va_G} {cA : Nat → ClassId} {st : Nat → Nat} {bs : Nat} (hO : qa_OK M NW l D cA st bs d o) {p : Program} {e : Env} {R : Room} {s : State} {m : MethodId} {args : Array Value} {below : List Frame} {meth : Method} {c : Code} (B : qa_B own nm cc nL ret p s m args meth c) (hX : qa_X NW D cA st bs s) (hbs : bs ≤ s.heap.size) (hfr : d + 1 ≤ R.frames) (hlo : 64 * (d + 1) ≤ R.locals) {n0 s0 : Nat} (hup : s.heap.size ≤ bs + n0) {r : Option Value × qa_H} (hcs : r.2.2.2.1 - n0 ≤ R.cells) (hss : r.2.2.2.2 - s0 ≤ R.slots) : ∀ {k : Nat} {x : qa_F}, qa_run o cd k x = some r → ∀ (H : Heap) (locs : List Loc) (ls : Array Slot), qa_R D cA st bs x.2.2.2 H → qa_L (qa_ca st bs) nL x.2.1 ls → va_S (qa_A bs) s.heap H locs → n0 ≤ x.2.2.2.2.2.1 → s0 ≤ x.2.2.2.2.2.2 → W p l e R s m args below meth c H locs (x.2.2.2.2.2.1 - n0) (x.2.2.2.2.2.2 - s0) (MQ below (qa_Q D cA st bs r) args s (r.2.2.2.1 - n0) (r.2.2.2.2 - s0) (qa_A bs)) (F0 m x.1 ls (x.2.2.1.map (qa_v (qa_ca st bs))))
  | 0, x, h => by cases h
  | k + 1, x, h => by
    intro H locs ls hR hL hS hn0 hs0
    unfold qa_run at h
    cases hc : cd x.1 with
    | none => rw [hc] at h; cases h
    | some op =>
      rw [hc] at h
      dsimp only at h
      obtain ⟨m1, m2, m3⟩ := hcd _ _ hc hO
      obtain ⟨g1, g2⟩ := m3 B hX hbs hfr hlo (L := x.2.1) (S := x.2.2.1) (h := x.2.2.2) hR hL hS hn0 hs0 hup (e := e) (below := below)
      cases ho : op o x.2.1 x.2.2.1 x.2.2.2 with
      | none => rw [ho] at h; cases h
      | some z =>
        rw [ho] at h
        cases z with
        | inl y =>
          have h1 := m1 _ _ _ _ ho
          have h2 := qa_run_up hcd hO h
          refine g1 y _ ho (by omega) (by omega) (fun H1 locs1 ls1 hR1 hL1 hS1 => ?_)
          exact qa_walk hcd hO B hX hbs hfr hlo hup hcs hss h H1 locs1 ls1 hR1 hL1 hS1 (by omega) (by omega)
        | inr q =>
          have h1 := m2 _ _ _ _ ho
          cases h
          have h3 := g2 _ ho
          rw [h1]
          exact h3
theorem qa_meth {M : qa_N} {NW : List (String × Nat × MethodName × String)} {own nm ds : String} {cc : ByteArray} {nL i : Nat} {ret : Option FieldType} {cd : qa_Cd} (hM : M i = (⟨own, nm, ds⟩, cc, nL, ret)) (hpl : plainName own = true) (hcd : ∀ pc op, cd pc = some op → qa_SW M NW own nm cc nL ret pc op) {o : qa_O} {d : Nat} {l : Launch} {D : va_G} {cA : Nat → ClassId} {st : Nat → Nat} {bs : Nat} (hO : qa_OK M NW l D cA st bs d o) {av : List Value} {h : qa_H} {r : Option Value × qa_H} (hlen : (qa_ent0 av).length ≤ nL) (hr : qa_lm o cd (0, qa_ent nL av, [], h) = some r) : (h.2.2.1 ≤ r.2.2.2.1 ∧ h.2.2.2 ≤ r.2.2.2.2) ∧
    Met l (M i).1 (qa_mw M i) { frames := d + 1, cells := r.2.2.2.1 - h.2.2.1, slots := r.2.2.2.2 - h.2.2.2, locals := 64 * (d + 1) } (qa_Pc NW D cA st bs av h) (qa_Q D cA st bs r) (r.2.2.2.1 - h.2.2.1) (r.2.2.2.2 - h.2.2.2) (qa_A bs) := by
  obtain ⟨k, hk⟩ := qa_lm_run hr
  refine ⟨qa_run_up hcd hO hk, ?_⟩
  unfold qa_mw
  rw [hM]
  refine Met.ofW (cc := cc) (maxL := nL) (ret := ret) hpl rfl ?_
  intro p e s m args below meth c s1 B hml hv
  obtain ⟨rfl, hX, hR, hb1, hb2⟩ := hv
  have hts := atoms_spec (ws := .code ⟨own, nm, ds⟩ cc nL ret :: qa_GW) B.pre
  have hB : qa_B own nm cc nL ret p s m (av.map (qa_v (qa_ca st bs))).toArray meth c := ⟨B.exec, B.bytes, hml, findClass_of_methodNamed B.named, fun w hw => hts w (List.mem_cons_of_mem _ hw), B.returns, B.notSynchronized, (name_of_methodNamed B.named B.method).1⟩
  rw [lg_entry_eq]
  have hw := qa_walk (r := r) (R := (headSpec (.code ⟨own, nm, ds⟩ cc nL ret :: qa_GW) { frames := d + 1, cells := r.2.2.2.1 - h.2.2.1, slots := r.2.2.2.2 - h.2.2.2, locals := 64 * (d + 1) }).room) hcd hO hB hX hb1 (Nat.le_refl _) (Nat.le_refl _) hb2 (Nat.le_refl _) (Nat.le_refl _) hk (e := e) (below := below) _ _ _ hR (qa_L_entry hlen) va_S.rf (Nat.le_refl _) (Nat.le_refl _)
  dsimp only at hw
  rw [Nat.sub_self, Nat.sub_self] at hw
  exact hw
