/-! arrays -/
def qh_iald (n : Nat) : qa_J := fun L S h => match S with
  | .int i :: .ref a :: S => match qa_arr h a 0 with
    | some (N, .inl f) => if i < 0 ∨ N ≤ i.toNatClampNeg then none else some (n, L, .int (f i.toNatClampNeg) :: S, h)
    | _ => none
  | _ => none
theorem qs_iald {NW : List (String × Nat × MethodName × String)} {own nm : String} {cc : ByteArray} {nL pc : Nat} (hd : decode cc pc = .ok (.iaload, 1)) : qa_QW NW own nm cc nL pc (qh_iald (pc + 1)) := by
  refine ⟨fun L S h y hy => ?_, ?_⟩
  · unfold qh_iald at hy
    split at hy
    · split at hy
      · split at hy
        · cases hy
        · cases hy
          exact ⟨Nat.le_refl _, Nat.le_refl _⟩
      · cases hy
    · cases hy
  · intro ret D cA st bs p l e R s m args below meth c H locs n0 s0 Q ls L S h y B hX hbs hfr hlo hy hR hL hS hn0 hs0 hup hcs hss kk
    obtain ⟨hx, hb, hml, hown, hts, hr, hlk, hnam⟩ := B
    unfold qh_iald at hy
    split at hy
    · split at hy
      · rename_i N f ha
        split at hy
        · cases hy
        · rename_i hin
          cases hy
          exact va_iald hx hb hX.1 hR _ 0 (qa_arr_ws ha) rfl hin hd (kk H locs ls hR hL hS)
      · cases hy
    · cases hy
def qh_lald (n : Nat) : qa_J := fun L S h => match S with
  | .int i :: .ref a :: S => match qa_arr h a 1 with
    | some (N, .inr (.inl f)) => if i < 0 ∨ N ≤ i.toNatClampNeg then none else some (n, L, .long (f i.toNatClampNeg) :: S, h)
    | _ => none
  | _ => none
theorem qs_lald {NW : List (String × Nat × MethodName × String)} {own nm : String} {cc : ByteArray} {nL pc : Nat} (hd : decode cc pc = .ok (.laload, 1)) : qa_QW NW own nm cc nL pc (qh_lald (pc + 1)) := by
  refine ⟨fun L S h y hy => ?_, ?_⟩
  · unfold qh_lald at hy
    split at hy
    · split at hy
      · split at hy
        · cases hy
        · cases hy
          exact ⟨Nat.le_refl _, Nat.le_refl _⟩
      · cases hy
    · cases hy
  · intro ret D cA st bs p l e R s m args below meth c H locs n0 s0 Q ls L S h y B hX hbs hfr hlo hy hR hL hS hn0 hs0 hup hcs hss kk
    obtain ⟨hx, hb, hml, hown, hts, hr, hlk, hnam⟩ := B
    unfold qh_lald at hy
    split at hy
    · split at hy
      · rename_i N f ha
        split at hy
        · cases hy
        · rename_i hin
          cases hy
          exact va_lald hx hb hX.1 hR _ 1 (qa_arr_ws ha) rfl hin hd (kk H locs ls hR hL hS)
      · cases hy
    · cases hy
def qh_zald (n : Nat) : qa_J := fun L S h => match S with
  | .int i :: .ref a :: S => match qa_arr h a 2 with
    | some (N, .inl f) => if i < 0 ∨ N ≤ i.toNatClampNeg then none else some (n, L, .int (f i.toNatClampNeg) :: S, h)
    | _ => none
  | _ => none
theorem qs_zald {NW : List (String × Nat × MethodName × String)} {own nm : String} {cc : ByteArray} {nL pc : Nat} (hd : decode cc pc = .ok (.baload, 1)) : qa_QW NW own nm cc nL pc (qh_zald (pc + 1)) := by
  refine ⟨fun L S h y hy => ?_, ?_⟩
  · unfold qh_zald at hy
    split at hy
    · split at hy
      · split at hy
        · cases hy
        · cases hy
          exact ⟨Nat.le_refl _, Nat.le_refl _⟩
      · cases hy
    · cases hy
  · intro ret D cA st bs p l e R s m args below meth c H locs n0 s0 Q ls L S h y B hX hbs hfr hlo hy hR hL hS hn0 hs0 hup hcs hss kk
    obtain ⟨hx, hb, hml, hown, hts, hr, hlk, hnam⟩ := B
    unfold qh_zald at hy
    split at hy
    · split at hy
      · rename_i N f ha
        split at hy
        · cases hy
        · rename_i hin
          cases hy
          exact va_zald hx hb hX.1 hR _ 2 (qa_arr_ws ha) rfl hin hd (kk H locs ls hR hL hS)
      · cases hy
    · cases hy
def qh_iast (n : Nat) : qa_J := fun L S h => match S with
  | .int x :: .int i :: .ref a :: S => match qa_arr h a 0 with
    | some (N, .inl f) => if i < 0 ∨ N ≤ i.toNatClampNeg then none else some (n, L, S, (qa_up h.1 a (.inl (0, N, .inl (upd f i.toNatClampNeg x))), h.2))
    | _ => none
  | _ => none
theorem qs_iast {NW : List (String × Nat × MethodName × String)} {own nm : String} {cc : ByteArray} {nL pc : Nat} (hd : decode cc pc = .ok (.iastore, 1)) : qa_QW NW own nm cc nL pc (qh_iast (pc + 1)) := by
  refine ⟨fun L S h y hy => ?_, ?_⟩
  · unfold qh_iast at hy
    split at hy
    · split at hy
      · split at hy
        · cases hy
        · cases hy
          exact ⟨Nat.le_refl _, Nat.le_refl _⟩
      · cases hy
    · cases hy
  · intro ret D cA st bs p l e R s m args below meth c H locs n0 s0 Q ls L S h y B hX hbs hfr hlo hy hR hL hS hn0 hs0 hup hcs hss kk
    obtain ⟨hx, hb, hml, hown, hts, hr, hlk, hnam⟩ := B
    unfold qh_iast at hy
    split at hy
    · split at hy
      · rename_i N f ha
        split at hy
        · cases hy
        · rename_i hin
          cases hy
          obtain ⟨⟨h1, h2⟩, h3⟩ := qa_arr_at ha
          exact va_iast hx hb hX.1 hR qa_ws_D hS _ 0 (qa_arr_ws ha) rfl hin hd (fun H1 locs1 hP1 hD1 hS1 => kk H1 locs1 ls (qa_R_set h1 h2 hP1) hL hS1)
      · cases hy
    · cases hy
def qh_last (n : Nat) : qa_J := fun L S h => match S with
  | .long x :: .int i :: .ref a :: S => match qa_arr h a 1 with
    | some (N, .inr (.inl f)) => if i < 0 ∨ N ≤ i.toNatClampNeg then none else some (n, L, S, (qa_up h.1 a (.inl (1, N, .inr (.inl (vp_updL f i.toNatClampNeg x)))), h.2))
    | _ => none
  | _ => none
theorem qs_last {NW : List (String × Nat × MethodName × String)} {own nm : String} {cc : ByteArray} {nL pc : Nat} (hd : decode cc pc = .ok (.lastore, 1)) : qa_QW NW own nm cc nL pc (qh_last (pc + 1)) := by
  refine ⟨fun L S h y hy => ?_, ?_⟩
  · unfold qh_last at hy
    split at hy
    · split at hy
      · split at hy
        · cases hy
        · cases hy
          exact ⟨Nat.le_refl _, Nat.le_refl _⟩
      · cases hy
    · cases hy
  · intro ret D cA st bs p l e R s m args below meth c H locs n0 s0 Q ls L S h y B hX hbs hfr hlo hy hR hL hS hn0 hs0 hup hcs hss kk
    obtain ⟨hx, hb, hml, hown, hts, hr, hlk, hnam⟩ := B
    unfold qh_last at hy
    split at hy
    · split at hy
      · rename_i N f ha
        split at hy
        · cases hy
        · rename_i hin
          cases hy
          obtain ⟨⟨h1, h2⟩, h3⟩ := qa_arr_at ha
          exact va_last hx hb hX.1 hR qa_ws_D hS _ 1 (qa_arr_ws ha) rfl hin hd (fun H1 locs1 hP1 hD1 hS1 => kk H1 locs1 ls (qa_R_set h1 h2 hP1) hL hS1)
      · cases hy
    · cases hy
def qh_zast (n : Nat) : qa_J := fun L S h => match S with
  | .int x :: .int i :: .ref a :: S => match qa_arr h a 2 with
    | some (N, .inl f) => if i < 0 ∨ N ≤ i.toNatClampNeg ∨ narrow .boolean (.int x) ≠ .int x then none else some (n, L, S, (qa_up h.1 a (.inl (2, N, .inl (upd f i.toNatClampNeg x))), h.2))
    | _ => none
  | _ => none
theorem qs_zast {NW : List (String × Nat × MethodName × String)} {own nm : String} {cc : ByteArray} {nL pc : Nat} (hd : decode cc pc = .ok (.bastore, 1)) : qa_QW NW own nm cc nL pc (qh_zast (pc + 1)) := by
  refine ⟨fun L S h y hy => ?_, ?_⟩
  · unfold qh_zast at hy
    split at hy
    · split at hy
      · split at hy
        · cases hy
        · cases hy
          exact ⟨Nat.le_refl _, Nat.le_refl _⟩
      · cases hy
    · cases hy
  · intro ret D cA st bs p l e R s m args below meth c H locs n0 s0 Q ls L S h y B hX hbs hfr hlo hy hR hL hS hn0 hs0 hup hcs hss kk
    obtain ⟨hx, hb, hml, hown, hts, hr, hlk, hnam⟩ := B
    unfold qh_zast at hy
    split at hy
    · rename_i x i a S'
      split at hy
      · rename_i N f ha
        split at hy
        · cases hy
        · rename_i hin
          cases hy
          obtain ⟨⟨h1, h2⟩, h3⟩ := qa_arr_at ha
          have hz : vp_nar .boolean x = x := by
            have : narrow .boolean (.int x) = .int x := Classical.byContradiction fun q => hin (Or.inr (Or.inr q))
            unfold vp_nar
            rw [this]
          refine va_zast hx hb hX.1 hR qa_ws_D hS _ 2 (qa_arr_ws ha) rfl (fun q => hin (q.elim Or.inl (fun z => Or.inr (Or.inl z)))) hd (fun H1 locs1 hP1 hD1 hS1 => kk H1 locs1 ls (qa_R_set h1 h2 ?_) hL hS1)
          rw [hz] at hP1
          exact hP1
      · cases hy
    · cases hy
/-- a reference out of an array, as a value -/
def qa_rv : Option Nat → Value
  | none => .null
  | some a => .ref a
theorem qa_rv_v (ca : Nat → Nat) (r : Option Nat) : va_rf (r.map ca) = qa_v ca (qa_rv r) := by cases r <;> rfl
def qh_aald (t n : Nat) : qa_J := fun L S h => match S with
  | .int i :: .ref a :: S => match qa_arr h a t with
    | some (N, .inr (.inr (.inr (.inr f)))) => if i < 0 ∨ N ≤ i.toNatClampNeg then none else some (n, L, qa_rv (f i.toNatClampNeg) :: S, h)
    | _ => none
  | _ => none
theorem qs_aald {NW : List (String × Nat × MethodName × String)} {own nm : String} {cc : ByteArray} {nL pc : Nat} {t : Nat} {C : String} (ht : ∀ cA, (qa_ty cA)[t]? = some (cA t, .object C)) (hd : decode cc pc = .ok (.aaload, 1)) : qa_QW NW own nm cc nL pc (qh_aald t (pc + 1)) := by
  refine ⟨fun L S h y hy => ?_, ?_⟩
  · unfold qh_aald at hy
    split at hy
    · split at hy
      · split at hy
        · cases hy
        · cases hy
          exact ⟨Nat.le_refl _, Nat.le_refl _⟩
      · cases hy
    · cases hy
  · intro ret D cA st bs p l e R s m args below meth c H locs n0 s0 Q ls L S h y B hX hbs hfr hlo hy hR hL hS hn0 hs0 hup hcs hss kk
    obtain ⟨hx, hb, hml, hown, hts, hr, hlk, hnam⟩ := B
    unfold qh_aald at hy
    split at hy
    · split at hy
      · rename_i N f ha
        split at hy
        · cases hy
        · rename_i hin
          cases hy
          refine va_aldq hx hb hX.1 hR _ t (qa_arr_ws ha) (ht cA) hin hd ?_
          rw [qa_rv_v]
          exact kk H locs ls hR hL hS
      · cases hy
    · cases hy
theorem qa_up_map (ca : Nat → Nat) (f : Nat → Option Nat) (k : Nat) (r : Option Nat) : va_up (fun j => (f j).map ca) k (r.map ca) = fun j => (va_up f k r j).map ca := by
  funext j
  unfold va_up
  split <;> rfl
/-- an object of the world's class ci into an array of that class -/
def qh_aast (t ci n : Nat) : qa_J := fun L S h => match S with
  | .ref v :: .int i :: .ref a :: S => match qa_arr h a t, qa_obj h v ci with
    | some (N, .inr (.inr (.inr (.inr f)))), some _ => if i < 0 ∨ N ≤ i.toNatClampNeg then none else some (n, L, S, (qa_up h.1 a (.inl (t, N, .inr (.inr (.inr (.inr (va_up f i.toNatClampNeg (some v))))))), h.2))
    | _, _ => none
  | _ => none
theorem qs_aast {NW : List (String × Nat × MethodName × String)} {own nm : String} {cc : ByteArray} {nL pc : Nat} {t ci : Nat} {r : vw_C} (ht : ∀ cA, (qa_ty cA)[t]? = some (cA t, .object r.1)) (hc : qa_cl[ci]? = some r) (hd : decode cc pc = .ok (.aastore, 1)) : qa_QW NW own nm cc nL pc (qh_aast t ci (pc + 1)) := by
  refine ⟨fun L S h y hy => ?_, ?_⟩
  · unfold qh_aast at hy
    split at hy
    · split at hy
      · split at hy
        · cases hy
        · cases hy
          exact ⟨Nat.le_refl _, Nat.le_refl _⟩
      · cases hy
    · cases hy
  · intro ret D cA st bs p l e R s m args below meth c H locs n0 s0 Q ls L S h y B hX hbs hfr hlo hy hR hL hS hn0 hs0 hup hcs hss kk
    obtain ⟨hx, hb, hml, hown, hts, hr, hlk, hnam⟩ := B
    unfold qh_aast at hy
    split at hy
    · rename_i v i a S'
      split at hy
      · rename_i N f fs ha hv
        split at hy
        · cases hy
        · rename_i hin
          cases hy
          obtain ⟨⟨h1, h2⟩, h3⟩ := qa_arr_at ha
          refine va_astq hx hb hX.1 hR qa_ws_D hS _ t _ ci (qa_arr_ws ha) (ht cA) (qa_obj_ws hv) hc hin hd (fun H1 locs1 hP1 hD1 hS1 => kk H1 locs1 ls (qa_R_set h1 h2 ?_) hL hS1)
          have e := qa_up_map (qa_ca st bs) f i.toNatClampNeg (some v)
          dsimp only [Option.map_some] at e
          rw [e] at hP1
          exact hP1
      · cases hy
    · cases hy
def qh_len (t n : Nat) : qa_J := fun L S h => match S with
  | .ref a :: S => match qa_arr h a t with
    | some x => some (n, L, .int (Int32.ofNat x.1) :: S, h)
    | none => none
  | _ => none
theorem qs_len {NW : List (String × Nat × MethodName × String)} {own nm : String} {cc : ByteArray} {nL pc : Nat} {t : Nat} {ty : FieldType} (ht : ∀ cA, (qa_ty cA)[t]? = some (cA t, ty)) (hd : decode cc pc = .ok (.arraylength, 1)) : qa_QW NW own nm cc nL pc (qh_len t (pc + 1)) := by
  refine ⟨fun L S h y hy => ?_, ?_⟩
  · unfold qh_len at hy
    split at hy
    · split at hy
      · cases hy
        exact ⟨Nat.le_refl _, Nat.le_refl _⟩
      · cases hy
    · cases hy
  · intro ret D cA st bs p l e R s m args below meth c H locs n0 s0 Q ls L S h y B hX hbs hfr hlo hy hR hL hS hn0 hs0 hup hcs hss kk
    obtain ⟨hx, hb, hml, hown, hts, hr, hlk, hnam⟩ := B
    unfold qh_len at hy
    split at hy
    · split at hy
      · rename_i x ha
        cases hy
        exact va_alen hx hb hX.1 hR _ t (qa_arr_ws ha) (ht cA) rfl hd (kk H locs ls hR hL hS)
      · cases hy
    · cases hy
def qh_cpyi (n : Nat) : qa_J := fun L S h => match S with
  | .int k :: .int dp :: .ref b :: .int sp :: .ref a :: S => match qa_arr h a 0, qa_arr h b 0 with
    | some (N, .inl f), some (K, .inl g) => if ¬ sp < 0 ∧ ¬ dp < 0 ∧ ¬ k < 0 ∧ sp.toNatClampNeg + k.toNatClampNeg ≤ N ∧ dp.toNatClampNeg + k.toNatClampNeg ≤ K ∧ (S.map fun v => v.category).sum ≤ 8 then some (n, L, S, (qa_up h.1 b (.inl (0, K, .inl (va_cpy f g sp.toNatClampNeg dp.toNatClampNeg k.toNatClampNeg))), h.2)) else none
    | _, _ => none
  | _ => none
theorem qs_cpyi {NW : List (String × Nat × MethodName × String)} {own nm : String} {cc : ByteArray} {nL pc : Nat} {i : Nat} (hw : Cond.methodLink own i arraycopyName ∈ qa_GW) (hw2 : Cond.native arraycopyName ∈ qa_GW) (hw3 : Cond.static arraycopyName ∈ qa_GW) (hw4 : Cond.initialized "java/lang/System" ∈ qa_GW) (hd : decode cc pc = .ok (.invokestatic i, 3)) : qa_QW NW own nm cc nL pc (qh_cpyi (pc + 3)) := by
  refine ⟨fun L S h y hy => ?_, ?_⟩
  · unfold qh_cpyi at hy
    split at hy
    · split at hy
      · split at hy
        · cases hy
          exact ⟨Nat.le_refl _, Nat.le_refl _⟩
        · cases hy
      · cases hy
    · cases hy
  · intro ret D cA st bs p l e R s m args below meth c H locs n0 s0 Q ls L S h y B hX hbs hfr hlo hy hR hL hS hn0 hs0 hup hcs hss kk
    obtain ⟨hx, hb, hml, hown, hts, hr, hlk, hnam⟩ := B
    unfold qh_cpyi at hy
    split at hy
    · split at hy
      · rename_i N f K g ha hb2
        split at hy
        · rename_i hk
          obtain ⟨k1, k2, k3, k4, k5, k6⟩ := hk
          cases hy
          obtain ⟨⟨h1, h2⟩, h3⟩ := qa_arr_at hb2
          refine va_copyi hx hb (hml.trans hL.1.symm) hown (hts _ hw) (hts _ hw2) (hts _ hw3) (hts _ hw4) hX.1 hR qa_ws_D hS _ _ 0 0 (ty := .int) (qa_arr_ws ha) (qa_arr_ws hb2) rfl rfl rfl k1 k2 k3 k4 k5 (fun i hi => rfl) hfr ?_ hd (fun H1 locs1 hP1 hD1 hS1 => kk H1 locs1 ls (qa_R_set h1 h2 hP1) hL hS1)
          have e1 : (List.map (fun v => v.category) (List.map (qa_v (qa_ca st bs)) ‹List Value›)).sum ≤ 8 := by
            rw [List.map_map]
            refine Nat.le_trans (Nat.le_of_eq ?_) k6
            congr 1
            apply List.map_congr_left
            intro v _
            exact qa_cat _ v
          have e2 : nativeFrameWords "java/lang/System" "arraycopy" 5 + 11 + 8 ≤ 64 := by decide
          omega
        · cases hy
      · cases hy
    · cases hy
def qh_cpyl (n : Nat) : qa_J := fun L S h => match S with
  | .int k :: .int dp :: .ref b :: .int sp :: .ref a :: S => match qa_arr h a 1, qa_arr h b 1 with
    | some (N, .inr (.inl f)), some (K, .inr (.inl g)) => if ¬ sp < 0 ∧ ¬ dp < 0 ∧ ¬ k < 0 ∧ sp.toNatClampNeg + k.toNatClampNeg ≤ N ∧ dp.toNatClampNeg + k.toNatClampNeg ≤ K ∧ (S.map fun v => v.category).sum ≤ 8 then some (n, L, S, (qa_up h.1 b (.inl (1, K, .inr (.inl (va_cpy f g sp.toNatClampNeg dp.toNatClampNeg k.toNatClampNeg)))), h.2)) else none
    | _, _ => none
  | _ => none
theorem qs_cpyl {NW : List (String × Nat × MethodName × String)} {own nm : String} {cc : ByteArray} {nL pc : Nat} {i : Nat} (hw : Cond.methodLink own i arraycopyName ∈ qa_GW) (hw2 : Cond.native arraycopyName ∈ qa_GW) (hw3 : Cond.static arraycopyName ∈ qa_GW) (hw4 : Cond.initialized "java/lang/System" ∈ qa_GW) (hd : decode cc pc = .ok (.invokestatic i, 3)) : qa_QW NW own nm cc nL pc (qh_cpyl (pc + 3)) := by
  refine ⟨fun L S h y hy => ?_, ?_⟩
  · unfold qh_cpyl at hy
    split at hy
    · split at hy
      · split at hy
        · cases hy
          exact ⟨Nat.le_refl _, Nat.le_refl _⟩
        · cases hy
      · cases hy
    · cases hy
  · intro ret D cA st bs p l e R s m args below meth c H locs n0 s0 Q ls L S h y B hX hbs hfr hlo hy hR hL hS hn0 hs0 hup hcs hss kk
    obtain ⟨hx, hb, hml, hown, hts, hr, hlk, hnam⟩ := B
    unfold qh_cpyl at hy
    split at hy
    · split at hy
      · rename_i N f K g ha hb2
        split at hy
        · rename_i hk
          obtain ⟨k1, k2, k3, k4, k5, k6⟩ := hk
          cases hy
          obtain ⟨⟨h1, h2⟩, h3⟩ := qa_arr_at hb2
          refine va_copyl hx hb (hml.trans hL.1.symm) hown (hts _ hw) (hts _ hw2) (hts _ hw3) (hts _ hw4) hX.1 hR qa_ws_D hS _ _ 1 1 (ty := .long) (qa_arr_ws ha) (qa_arr_ws hb2) rfl rfl rfl k1 k2 k3 k4 k5 (fun i hi => rfl) hfr ?_ hd (fun H1 locs1 hP1 hD1 hS1 => kk H1 locs1 ls (qa_R_set h1 h2 hP1) hL hS1)
          have e1 : (List.map (fun v => v.category) (List.map (qa_v (qa_ca st bs)) ‹List Value›)).sum ≤ 8 := by
            rw [List.map_map]
            refine Nat.le_trans (Nat.le_of_eq ?_) k6
            congr 1
            apply List.map_congr_left
            intro v _
            exact qa_cat _ v
          have e2 : nativeFrameWords "java/lang/System" "arraycopy" 5 + 11 + 8 ≤ 64 := by decide
          omega
        · cases hy
      · cases hy
    · cases hy
