/-! calls -/
theorem qp_x {p : Program} : True := trivial
def qh_call (V : qa_H → List Value → Bool) (i na n : Nat) : qa_Op := fun o L S h => if na ≤ S.length ∧ ((S.drop na).map fun v => v.category).sum ≤ 8 ∧ V h (S.take na).reverse = true then (match o i (S.take na).reverse h with | some r => some (.inl (n, L, r.1.toList ++ S.drop na, r.2)) | none => none) else none
/-- a run of a callee, whatever kind of call, gives the walk behind it -/
theorem qa_call_of {p : Program} {l : Launch} {e : Env} {R : Room} {s : State} {m : MethodId} {args : Array Value} {below : List Frame} {meth : Method} {c : Code} {H : Heap} {locs : List Loc} {cells slots mc ms pc : Nat} {ls : Array Slot} {st0 rest : List Value} {Q : State → Prop} {D : va_G} {cA : Nat → ClassId} {st : Nat → Nat} {bs : Nat} {r : Option Value × qa_H} {a : Array Value}
    (hr : va_Run p l e R s m args below meth c H locs cells slots mc ms (F0 m pc ls st0) rest (qa_Q D cA st bs r a) (qa_A bs)) (hS : va_S (qa_A bs) s.heap H locs)
    (kk : ∀ (H1 : Heap) (locs1 : List Loc), qa_R D cA st bs r.2 H1 → va_S (qa_A bs) s.heap H1 locs1 → W p l e R s m args below meth c H1 locs1 (cells + mc) (slots + ms) Q (F0 m (pc + 3) ls ((r.1.map (qa_v (qa_ca st bs))).toList ++ rest))) : W p l e R s m args below meth c H locs cells slots Q (F0 m pc ls st0) := by
  intro T hT X
  obtain ⟨v, s1, t, T', L, h0, X', hL, e1, e2, ⟨hv, hq, hz, hk⟩, gs⟩ := hr T hT X
  have hv2 : v = r.1.map (qa_v (qa_ca st bs)) := by cases hv; rfl
  subst hv2
  rw [h0] at hz hk
  obtain ⟨t2, a1, b1⟩ := kk T'.heap (locs ++ L) (by rw [e1]; exact hq)
    ⟨Nat.le_trans hS.1 (by rw [e1]; exact hz), fun q h1 h2 => by rw [e1, hk q (Nat.lt_of_lt_of_le h1 hS.1) h2]; exact hS.2.1 q h1 h2, fun q hq => by
      rcases List.mem_append.mp hq with h | h
      · exact hS.2.2 q h
      · exact hL q h⟩ T' rfl X'
  exact ⟨t2, gs t2 a1, b1⟩
/-- what a call asks of the tables, and of its receiver; kinds of calls -/
def qa_CK (M : qa_N) (NW : List (String × Nat × MethodName × String)) (V : qa_H → List Value → Bool) (own nm : String) (cc : ByteArray) (nL pc i na : Nat) : Prop :=
  ∀ {d : Nat} {ret : Option FieldType} {D : va_G} {cA : Nat → ClassId} {st : Nat → Nat} {bs : Nat} {p : Program} {l : Launch} {e : Env} {R : Room} {s : State} {m : MethodId} {args : Array Value} {below : List Frame} {meth : Method} {c : Code} {H : Heap} {locs : List Loc} {n0 s0 mc ms : Nat} {ls : Array Slot} {As S rest : List Value} {h : qa_H} {r : Option Value × qa_H}, qa_B own nm cc nL ret p s m args meth c → qa_X NW D cA st bs s → va_S (qa_A bs) s.heap H locs → d + 1 ≤ R.frames → 64 * (d + 1) ≤ R.locals → qa_R D cA st bs h H → ls.size = nL → S = As.reverse ++ rest → As.length = na → (rest.map fun v => v.category).sum ≤ 8 → V h As = true →
    Met l (M i).1 (qa_mw M i) { frames := d, cells := mc, slots := ms, locals := 64 * d } (qa_Pc NW D cA st bs As h) (qa_Q D cA st bs r) mc ms (qa_A bs) → h.2.2.1 - n0 + mc ≤ R.cells → h.2.2.2 - s0 + ms ≤ R.slots →
    (∀ U : State, U.heap = H → s.WarmedH U.vm → qa_Pc NW D cA st bs As h (As.map (qa_v (qa_ca st bs))).toArray U) →
    va_Run p l e R s m args below meth c H locs (h.2.2.1 - n0) (h.2.2.2 - s0) mc ms (F0 m pc ls (S.map (qa_v (qa_ca st bs)))) (rest.map (qa_v (qa_ca st bs))) (qa_Q D cA st bs r (As.map (qa_v (qa_ca st bs))).toArray) (qa_A bs)
theorem qs_call {M : qa_N} {NW : List (String × Nat × MethodName × String)} {V : qa_H → List Value → Bool} {own nm : String} {cc : ByteArray} {nL pc i na : Nat} {ret : Option FieldType} (hk : qa_CK M NW V own nm cc nL pc i na) : qa_SW M NW own nm cc nL ret pc (qh_call V i na (pc + 3)) := by
  intro o d l D cA st bs hO
  refine ⟨fun L S h y hy => ?_, fun L S h r hr => ?_, ?_⟩
  · unfold qh_call at hy
    split at hy
    · split at hy
      · rename_i r hr
        cases hy
        exact (hO _ _ _ _ hr).1
      · cases hy
    · cases hy
  · unfold qh_call at hr
    split at hr
    · split at hr <;> cases hr
    · cases hr
  · intro p e R s m args below meth c B hX hbs hfr hlo L S h H locs ls n0 s0 hR hL hS hn0 hs0 hup
    refine ⟨fun y Q hy hcs hss kk => ?_, fun r hr => ?_⟩
    · unfold qh_call at hy
      split at hy
      · rename_i hc
        obtain ⟨hc1, hc2, hc3⟩ := hc
        split at hy
        · rename_i r hr
          cases hy
          obtain ⟨⟨hm1, hm2⟩, hM⟩ := hO _ _ _ _ hr
          dsimp only at hcs hss kk
          refine qa_size (fun hsz => ?_)
          have hrun := hk (n0 := n0) (s0 := s0) (e := e) (below := below) (As := (S.take na).reverse) (rest := S.drop na) (S := S) B hX hS hfr hlo hR hL.1 (by rw [List.reverse_reverse, List.take_append_drop]) (by rw [List.length_reverse, List.length_take]; omega) hc2 hc3 hM (by omega) (by omega)
            (fun U hU hW => ⟨rfl, hX.move hW (fun a h1 h2 => by rw [hU]; exact hS.2.1 a h1 h2), by rw [hU]; exact hR, by rw [hU]; exact Nat.le_trans hbs hS.1, by rw [hU]; omega⟩)
          refine qa_call_of hrun hS (fun H1 locs1 hR1 hS1 => ?_)
          have k9 := kk H1 locs1 ls hR1 hL hS1
          rw [show h.2.2.1 - n0 + (r.2.2.2.1 - h.2.2.1) = r.2.2.2.1 - n0 by omega, show h.2.2.2 - s0 + (r.2.2.2.2 - h.2.2.2) = r.2.2.2.2 - s0 by omega]
          rw [List.map_append] at k9
          have e1 : (r.1.toList).map (qa_v (qa_ca st bs)) = (r.1.map (qa_v (qa_ca st bs))).toList := by cases r.1 <;> rfl
          rw [e1] at k9
          exact k9
        · cases hy
      · cases hy
    · unfold qh_call at hr
      split at hr
      · split at hr <;> cases hr
      · cases hr
/-- the words of the own code, as a callee asks them -/
theorem qa_good {M : qa_N} {i : Nat} (hw : Cond.code (M i).1 (M i).2.1 (M i).2.2.1 (M i).2.2.2 ∈ qa_GW) : GoodIn qa_GW (qa_mw M i) := by
  have hg : ∀ w, w ∈ qa_GW → goodWord w = true := fun w h => (List.mem_filter.mp h).2
  intro w h
  rcases List.mem_cons.mp h with e | e
  · subst e
    exact ⟨hw, good_of_word (hg _ hw)⟩
  · exact ⟨e, good_of_word (hg _ e)⟩
theorem qa_gw {w : Cond} (h : w ∈ qa_GW) : (w.onTables && w.keeps) = true ∨ ∃ ty, w = .arrayClass ty := good_of_word (List.mem_filter.mp h).2
theorem qa_sum {ca : Nat → Nat} {m : MethodId} {pc : Nat} {ls : Array Slot} {q S : List Value} (h : (S.map fun v => v.category).sum ≤ 8) : 2 * (F0 m pc ls q).monitorRoom + ((S.map (qa_v ca)).map fun v => v.category).sum ≤ 8 := by
  have e := qa_catsum (ca := ca) (S := S)
  show 2 * 0 + _ ≤ 8
  omega
/-- a receiver of the world's class ci -/
def qv_o (ci : Nat) : qa_H → List Value → Bool := fun h As => match As with
  | .ref a :: _ => (qa_obj h a ci).isSome
  | _ => false
def qv_s : qa_H → List Value → Bool := fun _ As => match As with
  | .ref a :: _ => decide (25 ≤ a ∧ a < 28)
  | _ => false
def qv_n : qa_H → List Value → Bool := fun _ _ => true
theorem qk_virtual {M : qa_N} {NW : List (String × Nat × MethodName × String)} {own nm C : String} {cc : ByteArray} {nL pc i k ix ci : Nat} {T : u_T} {N : Nat} (hcl : qa_cl[ci]? = some (C, T, N)) (hw : Cond.code (M i).1 (M i).2.1 (M i).2.2.1 (M i).2.2.2 ∈ qa_GW) (hw1 : Cond.methodLink own ix (M i).1 ∈ qa_GW) (hw2 : Cond.instanceMethod (M i).1 ∈ qa_GW) (hw3 : Cond.selects C (M i).1 (M i).1 ∈ qa_GW) (hw4 : Cond.initialized C ∈ qa_GW) (hm : (M i).2.2.1 ≤ 45)
    (hd0 : (M i).1.cls = C ∧ (M i).1.cls ≠ "java/lang/invoke/MethodHandle" ∧ (M i).1.cls ≠ "java/lang/invoke/VarHandle" ∧ (parseMethodDescriptor (M i).1.desc).map (fun d => d.parameters.length) = some k) (hd : decode cc pc = .ok (.invokevirtual ix, 3)) : qa_CK M NW (qv_o ci) own nm cc nL pc i (k + 1) := by
  intro d ret D cA st bs p l e R s m args below meth c H locs n0 s0 mc ms ls As S rest h r B hX hS hfr hlo hR hls hSe hna hsum hV hM hc1 hc2 hpre
  obtain ⟨hx, hb, hml, hown, hts, hr, hlk, hnam⟩ := B
  cases As with
  | nil => cases hV
  | cons a0 As' =>
    unfold qv_o at hV
    split at hV
    · rename_i a As2 heq
      cases heq
      cases ho : qa_obj h a ci with
      | none => rw [ho] at hV; cases hV
      | some fs =>
        have hg : GoodIn qa_GW (wsV own ix C (M i).1 (qa_mw M i)) := fun w hw9 => by
          rcases List.mem_append.mp hw9 with q | q
          · simp only [List.mem_cons, List.not_mem_nil, or_false] at q
            rcases q with q | q | q | q <;> subst q
            · exact ⟨hw1, qa_gw hw1⟩
            · exact ⟨hw2, qa_gw hw2⟩
            · exact ⟨hw3, qa_gw hw3⟩
            · exact ⟨hw4, qa_gw hw4⟩
          · exact qa_good hw w q
        subst hSe
        have key := va_runV (g := F0 m pc ls ((((Value.ref a :: As').reverse ++ rest)).map (qa_v (qa_ca st bs)))) (b := qa_ca st bs a) (As := As'.map (qa_v (qa_ca st bs))) (rest := rest.map (qa_v (qa_ca st bs))) (e := e) (below := below) (meth := meth) (locs := locs) (cells := h.2.2.1 - n0) (slots := h.2.2.2 - s0) ⟨hx, hb, hml, hown, hts⟩ hM
          (cwV k hts hg rfl rfl rfl hd0 ⟨hfr, by show 8 + ((M i).2.2.1 + 11) + 64 * d ≤ R.locals; omega⟩)
          ⟨qa_Pc_blind, va_recv hX.1 hR hcl (qa_obj_ws ho), hpre⟩ rfl (by rw [List.length_map]; simp only [List.length_cons] at hna; omega) hls (by simp [qa_v]) (qa_sum hsum) hd ⟨hc1, hc2⟩
        exact key
    · cases hV
