/-! steps that read and write cells -/
abbrev qa_J : Type := List Value → List Value → qa_H → Option qa_F
def qa_q (g : qa_J) : qa_Op := fun _ L S h => match g L S h with
  | none => none
  | some y => some (.inl y)
def qa_QW (NW : List (String × Nat × MethodName × String)) (own nm : String) (cc : ByteArray) (nL pc : Nat) (g : qa_J) : Prop :=
  (∀ L S h y, g L S h = some y → h.2.2.1 ≤ y.2.2.2.2.2.1 ∧ h.2.2.2 ≤ y.2.2.2.2.2.2) ∧
  ∀ {ret : Option FieldType} {D : va_G} {cA : Nat → ClassId} {st : Nat → Nat} {bs : Nat} {p : Program} {l : Launch} {e : Env} {R : Room} {s : State} {m : MethodId} {args : Array Value} {below : List Frame} {meth : Method} {c : Code} {H : Heap} {locs : List Loc} {n0 s0 : Nat} {Q : State → Prop} {ls : Array Slot} {L S : List Value} {h : qa_H} {y : qa_F}, qa_B own nm cc nL ret p s m args meth c → qa_X NW D cA st bs s → bs ≤ s.heap.size → 1 ≤ R.frames → 64 ≤ R.locals → g L S h = some y → qa_R D cA st bs h H → qa_L (qa_ca st bs) nL L ls → va_S (qa_A bs) s.heap H locs → n0 ≤ h.2.2.1 → s0 ≤ h.2.2.2 → s.heap.size ≤ bs + n0 → y.2.2.2.2.2.1 - n0 ≤ R.cells → y.2.2.2.2.2.2 - s0 ≤ R.slots →
    (∀ H1 locs1 ls1, qa_R D cA st bs y.2.2.2 H1 → qa_L (qa_ca st bs) nL y.2.1 ls1 → va_S (qa_A bs) s.heap H1 locs1 → W p l e R s m args below meth c H1 locs1 (y.2.2.2.2.2.1 - n0) (y.2.2.2.2.2.2 - s0) Q (F0 m y.1 ls1 (y.2.2.1.map (qa_v (qa_ca st bs))))) → W p l e R s m args below meth c H locs (h.2.2.1 - n0) (h.2.2.2 - s0) Q (F0 m pc ls (S.map (qa_v (qa_ca st bs))))
theorem qa_SW.q {M : qa_N} {NW : List (String × Nat × MethodName × String)} {own nm : String} {cc : ByteArray} {nL : Nat} {ret : Option FieldType} {pc : Nat} {g : qa_J} (hg : qa_QW NW own nm cc nL pc g) : qa_SW M NW own nm cc nL ret pc (qa_q g) := by
  intro o d l D cA st bs hO
  refine ⟨fun L S h y hy => ?_, fun L S h r hr => ?_, ?_⟩
  · unfold qa_q at hy
    split at hy
    · cases hy
    · rename_i z hz
      cases hy
      exact hg.1 L S h y hz
  · unfold qa_q at hr
    split at hr <;> cases hr
  · intro p e R s m args below meth c B hX hbs hfr hlo L S h H locs ls n0 s0 hR hL hS hn0 hs0 hup
    refine ⟨fun y Q hy hc hs k => ?_, fun r hr => ?_⟩
    · unfold qa_q at hy
      split at hy
      · cases hy
      · rename_i z hz
        cases hy
        exact hg.2 B hX hbs (by omega) (by omega) hz hR hL hS hn0 hs0 hup hc hs k
    · unfold qa_q at hr
      split at hr <;> cases hr
def qa_obj (h : qa_H) (a ci : Nat) : Option (List Value) := if 64 ≤ a ∧ a < 64 + h.2.1 then (match h.1 a with | .inr (c, fs) => if c = ci then some fs else none | .inl _ => none) else none
def qa_arr (h : qa_H) (a t : Nat) : Option vp_A := if 64 ≤ a ∧ a < 64 + h.2.1 then (match h.1 a with | .inl (u, x) => if u = t then some x else none | .inr _ => none) else none
theorem qa_obj_at {h : qa_H} {a ci : Nat} {fs : List Value} (e : qa_obj h a ci = some fs) : (64 ≤ a ∧ a < 64 + h.2.1) ∧ h.1 a = .inr (ci, fs) := by
  unfold qa_obj at e
  split at e
  · rename_i hw
    split at e
    · rename_i c gs hc
      split at e
      · rename_i hci
        cases e
        subst hci
        exact ⟨hw, hc⟩
      · cases e
    · cases e
  · cases e
theorem qa_arr_at {h : qa_H} {a t : Nat} {x : vp_A} (e : qa_arr h a t = some x) : (64 ≤ a ∧ a < 64 + h.2.1) ∧ h.1 a = .inl (t, x) := by
  unfold qa_arr at e
  split at e
  · rename_i hw
    split at e
    · rename_i c gs hc
      split at e
      · rename_i hci
        cases e
        subst hci
        exact ⟨hw, hc⟩
      · cases e
    · cases e
  · cases e
theorem qa_obj_ws {ca : Nat → Nat} {cA : Nat → ClassId} {h : qa_H} {a ci : Nat} {fs : List Value} (e : qa_obj h a ci = some fs) : (qa_ws ca cA h)[a - 64]? = some (ca a, .inr (ci, fs.map (qa_v ca))) := by
  obtain ⟨⟨h1, h2⟩, h3⟩ := qa_obj_at e
  rw [qa_ws_at h1 h2, h3]
  rfl
theorem qa_arr_ws {ca : Nat → Nat} {cA : Nat → ClassId} {h : qa_H} {a t : Nat} {x : vp_A} (e : qa_arr h a t = some x) : (qa_ws ca cA h)[a - 64]? = some (ca a, .inl (cA t, x.1, qa_x ca x.2)) := by
  obtain ⟨⟨h1, h2⟩, h3⟩ := qa_arr_at e
  rw [qa_ws_at h1 h2, h3]
  rfl
/-- a cell of the world has come anew -/
theorem qa_R_set {D : va_G} {cA : Nat → ClassId} {st : Nat → Nat} {bs : Nat} {h : qa_H} {H1 : Heap} {a : Nat} {x : qa_C} (h1 : 64 ≤ a) (h2 : a < 64 + h.2.1) (hP : va_P D qa_cl ((qa_ws (qa_ca st bs) cA h).set (a - 64) (qa_ca st bs a, qa_e (qa_ca st bs) cA x)) H1) : qa_R D cA st bs (qa_up h.1 a x, h.2) H1 := by
  obtain ⟨f, g⟩ := h
  rw [qa_ws_set x h1 h2] at hP
  exact hP
def qh_get (ci k n : Nat) : qa_J := fun L S h => match S with
  | .ref a :: S => match qa_obj h a ci with
    | some fs => match fs[k]? with
      | some v => some (n, L, v :: S, h)
      | none => none
    | none => none
  | _ => none
theorem qs_get {NW : List (String × Nat × MethodName × String)} {own nm C : String} {cc : ByteArray} {nL pc i ci k N : Nat} {T : u_T} (hc : qa_cl[ci]? = some (C, T, N)) (hin : ∀ w ∈ u_ws C T N, w ∈ qa_GW) (hk : k < N) (hw : Cond.fieldLink own i (T k).1 (T k).2.1 (T k).2.2.1 ∈ qa_GW) (hd : decode cc pc = .ok (.getfield i, 3)) : qa_QW NW own nm cc nL pc (qh_get ci k (pc + 3)) := by
  refine ⟨fun L S h y hy => ?_, ?_⟩
  · unfold qh_get at hy
    split at hy
    · split at hy
      · split at hy
        · cases hy
          exact ⟨Nat.le_refl _, Nat.le_refl _⟩
        · cases hy
      · cases hy
    · cases hy
  · intro ret D cA st bs p l e R s m args below meth c H locs n0 s0 Q ls L S h y B hX hbs hfr hlo hy hR hL hS hn0 hs0 hup hcs hss kk
    obtain ⟨hx, hb, hml, hown, hts, -⟩ := B
    unfold qh_get at hy
    split at hy
    · rename_i a S'
      split at hy
      · rename_i fs hfs
        split at hy
        · rename_i v hv
          cases hy
          exact va_get (v := qa_v (qa_ca st bs) v) hx hb hts hin hown hX.1 hR (a - 64) (qa_obj_ws hfs) hc k hk (hts _ hw) (fun _ h9 => h9) (by rw [List.getElem?_map, hv]; rfl) hd (kk H locs ls hR hL hS)
        · cases hy
      · cases hy
    · cases hy
def qh_put (ci k : Nat) (ty : FieldType) (n : Nat) : qa_J := fun L S h => match S with
  | v :: .ref a :: S => match qa_obj h a ci with
    | some fs => if fits ty v = true ∧ narrow ty v = v ∧ k < fs.length then some (n, L, S, (qa_up h.1 a (.inr (ci, fs.set k v)), h.2)) else none
    | none => none
  | _ => none
theorem qa_fits {ca : Nat → Nat} {ty : FieldType} {v : Value} (h : fits ty v = true) : fits ty (qa_v ca v) = true := by
  cases v <;> first | exact h | (cases ty <;> first | exact h | (simp [fits] at h))
theorem qa_narrow {ca : Nat → Nat} {ty : FieldType} {v : Value} (h : narrow ty v = v) : narrow ty (qa_v ca v) = qa_v ca v := by
  cases v <;> first | exact h | (cases ty <;> rfl)
theorem qa_map_set {ca : Nat → Nat} {fs : List Value} {k : Nat} {v : Value} : (fs.map (qa_v ca)).set k (qa_v ca v) = (fs.set k v).map (qa_v ca) := (List.map_set).symm
theorem qs_put {NW : List (String × Nat × MethodName × String)} {own nm C : String} {cc : ByteArray} {nL pc i ci k N : Nat} {T : u_T} {tt : Nat → FieldType} {ty : FieldType} (hc : qa_cl[ci]? = some (C, T, N)) (hin : ∀ w ∈ u_ws C T N, w ∈ qa_GW) (hty : ∀ k, k < N → parseFieldDescriptor (T k).2.2.1 = some (tt k)) (hnm : ∀ a, a < N → ∀ b, b < N → a ≠ b → (T a).2.1 ≠ (T b).2.1) (hk : k < N) (ht : tt k = ty) (hfin : (T k).2.2.2 = false ∨ ((T k).2.2.2 = true ∧ nm = "<init>" ∧ (T k).1 = own)) (hw : Cond.fieldLink own i (T k).1 (T k).2.1 (T k).2.2.1 ∈ qa_GW) (hd : decode cc pc = .ok (.putfield i, 3)) : qa_QW NW own nm cc nL pc (qh_put ci k ty (pc + 3)) := by
  refine ⟨fun L S h y hy => ?_, ?_⟩
  · unfold qh_put at hy
    split at hy
    · split at hy
      · split at hy
        · cases hy
          exact ⟨Nat.le_refl _, Nat.le_refl _⟩
        · cases hy
      · cases hy
    · cases hy
  · intro ret D cA st bs p l e R s m args below meth c H locs n0 s0 Q ls L S h y B hX hbs hfr hlo hy hR hL hS hn0 hs0 hup hcs hss kk
    obtain ⟨hx, hb, hml, hown, hts, hr, hlk, hnam⟩ := B
    unfold qh_put at hy
    split at hy
    · rename_i v a S'
      split at hy
      · rename_i fs hfs
        split at hy
        · rename_i hv
          cases hy
          obtain ⟨⟨h1, h2⟩, h3⟩ := qa_obj_at hfs
          have hdk : parseFieldDescriptor (T k).2.2.1 = some ty := by rw [hty k hk, ht]
          have kk2 : ∀ (H1 : Heap) (locs1 : List Loc), va_P D qa_cl ((qa_ws (qa_ca st bs) cA h).set (a - 64) (qa_ca st bs a, .inr (ci, (fs.map (qa_v (qa_ca st bs))).set k (qa_v (qa_ca st bs) v)))) H1 → va_D (qa_A bs) ((qa_ws (qa_ca st bs) cA h).set (a - 64) (qa_ca st bs a, .inr (ci, (fs.map (qa_v (qa_ca st bs))).set k (qa_v (qa_ca st bs) v)))) → va_S (qa_A bs) s.heap H1 locs1 → W p l e R s m args below meth c H1 locs1 (h.2.2.1 - n0) (h.2.2.2 - s0) Q (F0 m (pc + 3) ls (S'.map (qa_v (qa_ca st bs)))) := by
            intro H1 locs1 hP1 hD1 hS1
            rw [qa_map_set] at hP1
            exact kk H1 locs1 ls (qa_R_set (x := .inr (ci, fs.set k v)) h1 h2 hP1) hL hS1
          rcases hfin with hf | ⟨hf, hf2, hf3⟩
          · exact va_put (v := qa_v (qa_ca st bs) v) (ty := ty) hx hb hts hin tt hty hnm hown hX.1 hR qa_ws_D hS (a - 64) (qa_obj_ws hfs) hc k hk (hts _ hw) (fun _ h9 => h9) hf hdk (qa_narrow hv.2.1) (qa_fits hv.1) (by rw [List.length_map]; exact hv.2.2) hd kk2
          · exact va_putF (v := qa_v (qa_ca st bs) v) (ty := ty) hx hb hts hin tt hty hnm hown hX.1 hR qa_ws_D hS (a - 64) (qa_obj_ws hfs) hc k hk (hts _ hw) (fun _ h9 => h9) hf (hnam.trans hf2) hf3 hdk (qa_narrow hv.2.1) (qa_fits hv.1) (by rw [List.length_map]; exact hv.2.2) hd kk2
        · cases hy
      · cases hy
    · cases hy
