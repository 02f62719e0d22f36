/-! cells that are made, ends of methods, calls, what stands outside -/
theorem qa_size {p : Program} {l : Launch} {e : Env} {R : Room} {s : State} {m : MethodId} {args : Array Value} {below : List Frame} {meth : Method} {c : Code} {H : Heap} {locs : List Loc} {cells slots : Nat} {Q : State → Prop} {g : JFrame} (k : H.size ≤ s.heap.size + cells → W p l e R s m args below meth c H locs cells slots Q g) : W p l e R s m args below meth c H locs cells slots Q g := fun T hT X => k (by have h := X.same.2.2.1; rw [← hT]; exact h) T hT X
theorem qa_R_lo {D : va_G} {cA : Nat → ClassId} {st : Nat → Nat} {bs : Nat} {h : qa_H} {H : Heap} (hR : qa_R D cA st bs h H) (hb : bs ≤ H.size) : bs + h.2.1 ≤ H.size := by
  rcases Nat.eq_zero_or_pos h.2.1 with e | e
  · omega
  · have h1 := (hR _ _ (qa_ws_at (a := 64 + (h.2.1 - 1)) (by omega) (by omega))).lt
    have h2 : qa_ca st bs (64 + (h.2.1 - 1)) < H.size := h1
    unfold qa_ca at h2
    rw [if_neg (by omega)] at h2
    omega
def qh_new (ci : Nat) (ds : List Value) (n : Nat) : qa_J := fun L S h => if h.2.2.1 = h.2.1 then some (n, L, .ref (64 + h.2.1) :: S, (qa_up h.1 (64 + h.2.1) (.inr (ci, ds)), h.2.1 + 1, h.2.2.1 + 1, h.2.2.2 + ds.length)) else none
theorem qa_R_app {D : va_G} {cA : Nat → ClassId} {st : Nat → Nat} {bs : Nat} {h : qa_H} {H H1 : Heap} {x : qa_C} {g : Nat × Nat} (hR : qa_R D cA st bs h H) (o1 : ∀ q, q < H.size → H1[q]? = H[q]?) (ha : va_at D qa_cl (qa_ca st bs (64 + h.2.1), qa_e (qa_ca st bs) cA x) H1) : qa_R D cA st bs (qa_up h.1 (64 + h.2.1) x, h.2.1 + 1, g) H1 := by
  obtain ⟨f, n, g0⟩ := h
  unfold qa_R
  rw [← qa_ws_app (g := g0) x]
  refine va_P.app (hR.kept (fun k q hk => o1 q.1 ((hR k q hk).lt))) (fun k q hk => ?_)
  have hz : k < 1 := (List.getElem?_eq_some_iff.mp hk).1
  rw [show k = 0 by omega] at hk
  cases hk
  exact ha
theorem qs_new {NW : List (String × Nat × MethodName × String)} {own nm C : String} {cc : ByteArray} {nL pc i ci N : Nat} {T : u_T} {tt : Nat → FieldType} {ds : List Value} (hc : qa_cl[ci]? = some (C, T, N)) (hin : ∀ w ∈ u_ws C T N, w ∈ qa_GW) (hty : ∀ k, k < N → parseFieldDescriptor (T k).2.2.1 = some (tt k)) (hN : ds.length = N) (hds : ∀ j, j < N → defaultValue (tt j) = vp_V ds j) (hdv : ∀ ca, ds.map (qa_v ca) = ds) (hw1 : Cond.classLink own i C ∈ qa_GW) (hw2 : Cond.instantiable C N ∈ qa_GW) (hw3 : Cond.initialized C ∈ qa_GW) (hd : decode cc pc = .ok (.new i, 3)) : qa_QW NW own nm cc nL pc (qh_new ci ds (pc + 3)) := by
  refine ⟨fun L S h y hy => ?_, ?_⟩
  · unfold qh_new at hy
    split at hy
    · cases hy
      exact ⟨Nat.le_succ _, Nat.le_add_right _ _⟩
    · cases hy
  · intro ret D cA st bs p l e R s m args below meth c H locs n0 s0 Q ls L S h y B hX hbs hfr hlo hy hR hL hS hn0 hs0 hup hcs hss kk
    obtain ⟨hx, hb, hml, hown, hts, hr, hlk, hnam⟩ := B
    unfold qh_new at hy
    split at hy
    · rename_i hop
      cases hy
      refine qa_size (fun hsz => ?_)
      have hlow := qa_R_lo hR (Nat.le_trans hbs hS.1)
      have hH : H.size = bs + h.2.1 := by omega
      have hKn := hX.1.1 ci _ hc
      dsimp only at hcs hss kk
      rw [hN] at hss kk
      refine W.newcK hx hb hown (hts _ hw1) (hts _ hw2) (hts _ hw3) rfl hd (by omega) (by omega) hKn.2.1 rfl fun H1 kC hkC e1 z1 o1 => ?_
      have ca0 : qa_ca st bs (64 + h.2.1) = H.size := by
        unfold qa_ca
        rw [if_neg (by omega)]
        omega
      have hR1 : qa_R D cA st bs (qa_up h.1 (64 + h.2.1) (.inr (ci, ds)), h.2.1 + 1, h.2.2.1 + 1, h.2.2.2 + N) H1 := by
        refine qa_R_app hR o1 ?_
        rw [ca0]
        exact ⟨_, hc, (u_born tt hts hin hKn hkC e1 hty).to (fun j hj => by rw [hds j hj]; show vp_V ds j = vp_V (ds.map (qa_v _)) j; rw [hdv])⟩
      have hS1 : va_S (qa_A bs) s.heap H1 locs := ⟨Nat.le_trans hS.1 (by omega), fun x h1 h2 => (o1 x (Nat.lt_of_lt_of_le h1 hS.1)).trans (hS.2.1 x h1 h2), hS.2.2⟩
      have k9 := kk H1 locs ls hR1 hL hS1
      rw [show h.2.2.1 + 1 - n0 = h.2.2.1 - n0 + 1 by omega, show h.2.2.2 + N - s0 = h.2.2.2 - s0 + N by omega] at k9
      rw [← ca0]
      exact k9
    · cases hy
def qh_newa (t : Nat) (ty : FieldType) (n : Nat) : qa_J := fun L S h => match S with
  | .int k :: S => if h.2.2.1 = h.2.1 ∧ ¬ k < 0 ∧ k.toNatClampNeg ≤ 100000 then some (n, L, .ref (64 + h.2.1) :: S, (qa_up h.1 (64 + h.2.1) (.inl (t, k.toNatClampNeg, if ty = .long then .inr (.inl (fun _ => 0)) else .inl (fun _ => 0))), h.2.1 + 1, h.2.2.1 + 1, h.2.2.2 + k.toNatClampNeg)) else none
  | _ => none
theorem qs_newa {NW : List (String × Nat × MethodName × String)} {own nm : String} {cc : ByteArray} {nL pc t : Nat} {at0 : ArrayType} {ty : FieldType} (hty : newarray.typeOf at0 = ty) (h3 : ty = .int ∨ ty = .long ∨ ty = .boolean) (ht : ∀ cA, (qa_ty cA)[t]? = some (cA t, ty)) (hw : Cond.arrayClass ty ∈ qa_GW) (hd : decode cc pc = .ok (.newarray at0, 2)) : qa_QW NW own nm cc nL pc (qh_newa t ty (pc + 2)) := by
  refine ⟨fun L S h y hy => ?_, ?_⟩
  · unfold qh_newa at hy
    split at hy
    · split at hy
      · cases hy
        exact ⟨Nat.le_succ _, Nat.le_add_right _ _⟩
      · cases hy
    · cases hy
  · intro ret D cA st bs p l e R s m args below meth c H locs n0 s0 Q ls L S h y B hX hbs hfr hlo hy hR hL hS hn0 hs0 hup hcs hss kk
    obtain ⟨hx, hb, hml, hown, hts, hr, hlk, hnam⟩ := B
    unfold qh_newa at hy
    split at hy
    · rename_i k S'
      split at hy
      · rename_i hop
        obtain ⟨hop, hk0, hk1⟩ := hop
        cases hy
        refine qa_size (fun hsz => ?_)
        have hlow := qa_R_lo hR (Nat.le_trans hbs hS.1)
        have hH : H.size = bs + h.2.1 := by omega
        dsimp only at hcs hss kk
        subst hty
        have hcb : k.toNatClampNeg * componentBytes (newarray.typeOf at0) ≤ 536870912 := by
          have : componentBytes (newarray.typeOf at0) ≤ 8 := by rcases h3 with q | q | q <;> rw [q] <;> decide
          calc k.toNatClampNeg * componentBytes (newarray.typeOf at0) ≤ 100000 * 8 := Nat.mul_le_mul hk1 this
            _ ≤ 536870912 := by decide
        refine va_newaK hx hb (hts _ hw) rfl hd rfl hk0 rfl hcb (by omega) (by omega) rfl fun H1 c1 e1 z1 o1 hAr hNm => ?_
        have ca0 : qa_ca st bs (64 + h.2.1) = H.size := by
          unfold qa_ca
          rw [if_neg (by omega)]
          omega
        have hc1 : c1 = cA t := by
          have h9 := (hX.1.2 t _ (ht cA)).2
          have h10 : s.vm.findClass ("[" ++ (newarray.typeOf at0).toString) = some (cA t) := by
            rcases h3 with q | q | q <;> rw [q] at h9 ⊢ <;> exact h9
          exact Option.some.inj (hNm.symm.trans h10)
        have hR1 : qa_R D cA st bs (qa_up h.1 (64 + h.2.1) (.inl (t, k.toNatClampNeg, if newarray.typeOf at0 = .long then .inr (.inl (fun _ => 0)) else .inl (fun _ => 0))), h.2.1 + 1, h.2.2.1 + 1, h.2.2.2 + k.toNatClampNeg) H1 := by
          refine qa_R_app hR o1 ?_
          rw [ca0]
          rcases h3 with q | q | q
          · rw [q] at e1 ⊢
            rw [if_neg (by decide)]
            show H1[H.size]? = some (vp_cell (cA t) (k.toNatClampNeg, .inl (fun _ => 0)))
            rw [e1, hc1, vp_cell_i]
            rfl
          · rw [q] at e1 ⊢
            rw [if_pos rfl]
            show H1[H.size]? = some (vp_cell (cA t) (k.toNatClampNeg, .inr (.inl (fun _ => 0))))
            rw [e1, hc1, vp_cell_l]
            rfl
          · rw [q] at e1 ⊢
            rw [if_neg (by decide)]
            show H1[H.size]? = some (vp_cell (cA t) (k.toNatClampNeg, .inl (fun _ => 0)))
            rw [e1, hc1, vp_cell_i]
            rfl
        have hS1 : va_S (qa_A bs) s.heap H1 locs := ⟨Nat.le_trans hS.1 (by omega), fun x h1 h2 => (o1 x (Nat.lt_of_lt_of_le h1 hS.1)).trans (hS.2.1 x h1 h2), hS.2.2⟩
        have k9 := kk H1 locs ls hR1 hL hS1
        rw [show h.2.2.1 + 1 - n0 = h.2.2.1 - n0 + 1 by omega, show h.2.2.2 + k.toNatClampNeg - s0 = h.2.2.2 - s0 + k.toNatClampNeg by omega] at k9
        rw [← ca0]
        exact k9
      · cases hy
    · cases hy
def qh_anew (t n : Nat) : qa_J := fun L S h => match S with
  | .int k :: S => if h.2.2.1 = h.2.1 ∧ ¬ k < 0 ∧ k.toNatClampNeg ≤ 100000 then some (n, L, .ref (64 + h.2.1) :: S, (qa_up h.1 (64 + h.2.1) (.inl (t, k.toNatClampNeg, .inr (.inr (.inr (.inr (fun _ => none)))))), h.2.1 + 1, h.2.2.1 + 1, h.2.2.2 + k.toNatClampNeg)) else none
  | _ => none
theorem qs_anew {NW : List (String × Nat × MethodName × String)} {own nm C : String} {cc : ByteArray} {nL pc t i : Nat} (ht : ∀ cA, (qa_ty cA)[t]? = some (cA t, .object C)) (hC : C ∈ ["SistersBoard$State", "SistersBoard$Image", "SistersBoard$Word"]) (hw : Cond.classLink own i C ∈ qa_GW) (hd : decode cc pc = .ok (.anewarray i, 3)) : qa_QW NW own nm cc nL pc (qh_anew t (pc + 3)) := by
  refine ⟨fun L S h y hy => ?_, ?_⟩
  · unfold qh_anew at hy
    split at hy
    · split at hy
      · cases hy
        exact ⟨Nat.le_succ _, Nat.le_add_right _ _⟩
      · cases hy
    · cases hy
  · intro ret D cA st bs p l e R s m args below meth c H locs n0 s0 Q ls L S h y B hX hbs hfr hlo hy hR hL hS hn0 hs0 hup hcs hss kk
    obtain ⟨hx, hb, hml, hown, hts, hr, hlk, hnam⟩ := B
    unfold qh_anew at hy
    split at hy
    · rename_i k S'
      split at hy
      · rename_i hop
        obtain ⟨hop, hk0, hk1⟩ := hop
        cases hy
        refine qa_size (fun hsz => ?_)
        have hlow := qa_R_lo hR (Nat.le_trans hbs hS.1)
        have hH : H.size = bs + h.2.1 := by omega
        dsimp only at hcs hss kk
        refine W.anew hx hb hown (hts _ hw) (va_AO.use (hX.2.2.1 C hC)) rfl hd rfl hk0 (by omega) (by omega) (by omega) fun c1 kA comp f1 f2 f3 f4 => ?_
        generalize hH1 : H.push ({ cls := c1, slots := Array.replicate k.toNatClampNeg .null, vm := .none } : Cell) = H1
        have z1 : H1.size = H.size + 1 := by rw [← hH1, Array.size_push]
        have e1 : H1[H.size]? = some (arrV c1 k.toNatClampNeg (fun _ => .null)) := by rw [← hH1, Array.getElem?_push_size, ← arrV_new]
        have o1 : ∀ q : Nat, q < H.size → H1[q]? = H[q]? := fun q hq => by rw [← hH1, Array.getElem?_push, if_neg (Nat.ne_of_lt hq)]
        have ca0 : qa_ca st bs (64 + h.2.1) = H.size := by
          unfold qa_ca
          rw [if_neg (by omega)]
          omega
        have hc1 : c1 = cA t := by
          obtain ⟨kB, cB, g1, g2, g3, g4⟩ := (hX.1.2 t _ (ht cA)).2
          exact Option.some.inj (f1.symm.trans g4)
        have hR1 : qa_R D cA st bs (qa_up h.1 (64 + h.2.1) (.inl (t, k.toNatClampNeg, .inr (.inr (.inr (.inr (fun _ => none)))))), h.2.1 + 1, h.2.2.1 + 1, h.2.2.2 + k.toNatClampNeg) H1 := by
          refine qa_R_app hR o1 ?_
          rw [ca0]
          show H1[H.size]? = some (vp_cell (cA t) (k.toNatClampNeg, .inr (.inr (.inr (.inr (fun _ => none))))))
          rw [e1, hc1, vp_cell_q]
          rfl
        have hS1 : va_S (qa_A bs) s.heap H1 locs := ⟨Nat.le_trans hS.1 (by omega), fun x h1 h2 => (o1 x (Nat.lt_of_lt_of_le h1 hS.1)).trans (hS.2.1 x h1 h2), hS.2.2⟩
        have k9 := kk H1 locs ls hR1 hL hS1
        rw [show h.2.2.1 + 1 - n0 = h.2.2.1 - n0 + 1 by omega, show h.2.2.2 + k.toNatClampNeg - s0 = h.2.2.2 - s0 + k.toNatClampNeg by omega] at k9
        rw [← ca0]
        exact k9
      · cases hy
    · cases hy
