/-! String.checkIndex, within its bounds -/
def qy_P : MethodName := ⟨"jdk/internal/util/Preconditions", "checkIndex", "(IILjava/util/function/BiFunction;)I"⟩
def qw_P : List Cond := Cond.code qy_P prog_32_method_11_code 3 (some .int) :: []
theorem qc_Pbody {p : Program} {l : Launch} {e : Env} {R : Room} {s : State} {m : MethodId} {args : Array Value} {below : List Frame} {meth : Method} {c : Code} (hx : p.tables.exec = Jvm.exec) (hb : c.code = prog_32_method_11_code) (hr : meth.sig.returnType = some .int) (hlocks : meth.locks = false) {ls : Array Slot} {x y : Int32} (h0 : ¬ x < 0) (h1 : x < y) (l0 : ls[0]? = some (.val (.int x))) (l1 : ls[1]? = some (.val (.int y))) {A : Nat → Prop} : W p l e R s m args below meth c s.heap [] 0 0 (MQ below (fun _ s0 o t => o = .returned (some (.int x)) ∧ t.heap = s0.heap) args s 0 0 A) (F0 m 0 ls []) := by
  refine lv_iload_n hx hb (show decode prog_32_method_11_code 0 = .ok (.iload_n 0, 1) by decide +kernel) rfl l0 ?_
  refine lv_if_lt hx hb (show decode prog_32_method_11_code 1 = .ok (.ifCond .lt 8, 3) by decide +kernel) (tgt := 9) rfl (fun q => absurd q h0) (fun _ => ?_)
  refine lv_iload_n hx hb (show decode prog_32_method_11_code 4 = .ok (.iload_n 0, 1) by decide +kernel) rfl l0 ?_
  refine lv_iload_n hx hb (show decode prog_32_method_11_code 5 = .ok (.iload_n 1, 1) by decide +kernel) rfl l1 ?_
  refine lv_icmp_lt hx hb (show decode prog_32_method_11_code 6 = .ok (.if_icmp .lt 10, 3) by decide +kernel) (tgt := 16) rfl (fun _ => ?_) (fun q => absurd h1 q)
  refine lv_iload_n hx hb (show decode prog_32_method_11_code 16 = .ok (.iload_n 0, 1) by decide +kernel) rfl l0 ?_
  exact W.iret hx hb hr (fun t ht hW => ⟨rfl, ht⟩) (fun q hq => by cases hq) (show decode prog_32_method_11_code 17 = .ok (.ireturn, 1) by decide +kernel) hlocks
theorem qc_Pmet (l : Launch) {x y : Int32} (h0 : ¬ x < 0) (h1 : x < y) {w : Value} (hw : w = .null ∨ ∃ t, w = .ref t) (A : Nat → Prop) : Met l qy_P qw_P { frames := 0, cells := 0, slots := 0, locals := 0 } (fun v _ => v = ([.int x, .int y, w] : List Value).toArray) (fun _ s0 o t => o = .returned (some (.int x)) ∧ t.heap = s0.heap) 0 0 A := by
  refine Met.ofW (cc := prog_32_method_11_code) (maxL := 3) (ret := some .int) (by decide) rfl ?_
  intro p e s m args below meth c s₁ B hml hv
  subst hv
  rw [lg_entry_eq]
  rcases hw with rfl | ⟨t, rfl⟩
  · have hl := lv_entry ([.int x, .int y, .null]) (n := 3) (Nat.le_of_ble_eq_true rfl)
    generalize (lg_sl ([.int x, .int y, .null]) ++ List.replicate (3 - (lg_sl ([.int x, .int y, .null])).length) Slot.unset).toArray = ls at hl ⊢
    have hl : lv_has ls 3 [(0, .int x), (1, .int y), (2, .null)] := hl
    exact qc_Pbody B.exec B.bytes B.returns B.notSynchronized h0 h1 (lv_at hl 0 rfl) (lv_at hl 1 rfl)
  · have hl := lv_entry ([.int x, .int y, .ref t]) (n := 3) (Nat.le_of_ble_eq_true rfl)
    generalize (lg_sl ([.int x, .int y, .ref t]) ++ List.replicate (3 - (lg_sl ([.int x, .int y, .ref t])).length) Slot.unset).toArray = ls at hl ⊢
    have hl : lv_has ls 3 [(0, .int x), (1, .int y), (2, .ref t)] := hl
    exact qc_Pbody B.exec B.bytes B.returns B.notSynchronized h0 h1 (lv_at hl 0 rfl) (lv_at hl 1 rfl)
set_option maxRecDepth 20000 in
theorem qc_Pin : (Cond.fieldLink "java/lang/String" 1053 "jdk/internal/util/Preconditions" "SIOOBE_FORMATTER" "Ljava/util/function/BiFunction;" ∈ qa_GW ∧ GoodIn qa_GW (va_wsS "java/lang/String" 1059 qy_P qw_P)) := by
  refine ⟨List.mem_filter.mpr ⟨List.mem_append_right _ (by decide +kernel), rfl⟩, fun w hw => ?_⟩
  have h : ∀ w ∈ va_wsS "java/lang/String" 1059 qy_P qw_P, w ∈ tables_1 ∧ goodWord w = true := by decide +kernel
  obtain ⟨h1, h2⟩ := h w hw
  have hm : w ∈ qa_GW := List.mem_filter.mpr ⟨List.mem_append_right _ h1, h2⟩
  exact ⟨hm, qa_gw hm⟩
/-- from pc 2 of String.checkIndex to pc 9 -/
theorem qc_Pcall {p : Program} {l : Launch} {e : Env} {R : Room} {s : State} {m : MethodId} {args : Array Value} {below : List Frame} {meth : Method} {c : Code} {H : Heap} {locs : List Loc} {cells slots : Nat} {Q : State → Prop} {nm : String} {bs nL : Nat} {ret : Option FieldType} (B : qa_B "java/lang/String" nm prog_23_method_155_code nL ret p s m args meth c) (hF : qa_Fm bs s) (hS : va_S (qa_A bs) s.heap H locs) {ls : Array Slot} (hls : ls.size = nL) {S : List Value} {x y : Int32} (h0 : ¬ x < 0) (h1 : x < y) (hsum : (S.map fun v => v.category).sum ≤ 8) (hfr : 1 ≤ R.frames) (hlo : 64 ≤ R.locals) (hcs : cells ≤ R.cells) (hss : slots ≤ R.slots) (kk : W p l e R s m args below meth c H locs cells slots Q (F0 m 9 ls S)) : W p l e R s m args below meth c H locs cells slots Q (F0 m 2 ls (.int y :: .int x :: S)) := by
  obtain ⟨hx, hb, hml, hown, hts, -⟩ := B
  have go : ∀ w : Value, (w = .null ∨ ∃ t, w = .ref t) → W p l e R s m args below meth c H locs cells slots Q (F0 m 5 ls (w :: .int y :: .int x :: S)) := fun w hw => by
    have hM := qc_Pmet l h0 h1 hw (fun _ => False)
    have key := va_runS (g := F0 m 5 ls (w :: .int y :: .int x :: S)) (As := [.int x, .int y, w]) (rest := S) (H := H) (e := e) (below := below) (meth := meth) (locs := locs) (cells := cells) (slots := slots) (R := R) (p := p) (nL := nL) ⟨hx, hb, hml, hown, hts⟩ hM
      (va_cwS 3 hts qc_Pin.2 rfl rfl rfl (by decide +kernel) ⟨hfr, by show 8 + (3 + 11) + 0 ≤ R.locals; omega⟩)
      ⟨fun a U g mk q => q, fun U hU hW => rfl⟩ rfl rfl hls rfl (by show 2 * 0 + (S.map fun v => v.category).sum ≤ 8; omega) (show decode prog_23_method_155_code 5 = .ok (.invokestatic 1059, 3) by decide +kernel) ⟨hcs, hss⟩
    intro T hT X
    obtain ⟨v, s1, t, T', L, k0, X', hL, e1, e2, ⟨hv, hq⟩, gs⟩ := key T hT X
    have hv2 : v = some (.int x) := by cases hv; rfl
    subst hv2
    have hL0 : L = [] := List.eq_nil_iff_forall_not_mem.mpr (fun q hq => hL q hq)
    subst hL0
    rw [List.append_nil] at X'
    obtain ⟨t2, a1, b1⟩ := (lv_pop (va := .int x) hx hb (show decode prog_23_method_155_code 8 = .ok (.pop, 1) by decide +kernel) rfl kk) T' (by rw [e1, hq, k0]) X'
    exact ⟨t2, gs t2 a1, b1⟩
  rcases hF.1.1 with hZ | ⟨t, hZ⟩
  · exact va_gets hx hb hZ hS hown (hts _ qc_Pin.1) (fun _ h9 => h9) (show decode prog_23_method_155_code 2 = .ok (.getstatic 1053, 3) by decide +kernel) (go .null (Or.inl rfl))
  · exact va_gets hx hb hZ hS hown (hts _ qc_Pin.1) (fun _ h9 => h9) (show decode prog_23_method_155_code 2 = .ok (.getstatic 1053, 3) by decide +kernel) (go (.ref t) (Or.inr ⟨t, rfl⟩))
def qh_ck (n : Nat) : qa_J := fun L S h => match S with
  | .int y :: .int x :: S => if (S.map fun v => v.category).sum ≤ 8 ∧ ¬ x < 0 ∧ x < y then some (n, L, S, h) else none
  | _ => none
theorem qs_ck {NW : List (String × Nat × MethodName × String)} {nm : String} {nL : Nat} : qa_QW NW "java/lang/String" nm prog_23_method_155_code nL 2 (qh_ck 9) := by
  refine ⟨fun L S h y hy => ?_, ?_⟩
  · unfold qh_ck at hy
    split at hy
    · split at hy
      · cases hy
        exact ⟨Nat.le_refl _, Nat.le_refl _⟩
      · cases hy
    · cases hy
  · intro ret D cA st bs p l e R s m args below meth c H locs n0 s0 Q ls L S h y B hX hbs hfr hlo hy hR hL hS hn0 hs0 hup hcs hss kk
    unfold qh_ck at hy
    split at hy
    · rename_i y1 x1 S'
      split at hy
      · rename_i hq
        cases hy
        have e := qa_catsum (ca := qa_ca st bs) (S := S')
        exact qc_Pcall B hX.2.2.2.2.2.2.2.2.2 hS hL.1 hq.2.1 hq.2.2 (by rw [e]; exact hq.1) hfr hlo hcs hss (kk H locs ls hR hL hS)
      · cases hy
    · cases hy
