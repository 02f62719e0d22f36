/-! THE START: the constructors' tables, run -/
def q0_f : Nat → qa_C := fun a => if a < 64 then .inr (10, [.ref 65, .ref 67, .ref 73, .ref 78, .ref 83, .ref 125, .ref 129, .ref 133, .ref 139, .ref 145, .ref 150, .ref 155, .ref 190, .ref 191, .int 0, .int 0, .int 0, .int 0]) else .inr (0, [])
def qa_fo (h : qa_H) : Prop := ∀ a, a < 64 ∨ 64 + h.2.1 ≤ a → h.1 a = q0_f a
def qa_le (o o' : qa_O) : Prop := ∀ k As h r, o k As h = some r → o' k As h = some r
def qa_gd (op : qa_Op) : Prop := (∀ o o' : qa_O, qa_le o o' → ∀ L S h z, op o L S h = some z → op o' L S h = some z) ∧ ∀ o : qa_O, (∀ k As h r, o k As h = some r → qa_fo h → qa_fo r.2) → ∀ L S h, qa_fo h → (∀ y, op o L S h = some (.inl y) → qa_fo y.2.2.2) ∧ ∀ r, op o L S h = some (.inr r) → qa_fo r.2
theorem gd_p {g : qa_P} : qa_gd (qa_p g) := by
  refine ⟨fun o o' _ L S h z hz => hz, fun o _ L S h hf => ⟨fun y hy => ?_, fun r hr => ?_⟩⟩
  · unfold qa_p at hy
    split at hy
    · cases hy
    · cases hy; exact hf
  · unfold qa_p at hr
    split at hr <;> cases hr
theorem gd_r {g : List Value → Option (Option Value)} : qa_gd (qa_r g) := by
  refine ⟨fun o o' _ L S h z hz => hz, fun o _ L S h hf => ⟨fun y hy => ?_, fun r hr => ?_⟩⟩
  · unfold qa_r at hy
    split at hy <;> cases hy
  · unfold qa_r at hr
    split at hr
    · cases hr
    · cases hr; exact hf
theorem gd_q {g : qa_J} (hg : ∀ L S h y, qa_fo h → g L S h = some y → qa_fo y.2.2.2) : qa_gd (qa_q g) := by
  refine ⟨fun o o' _ L S h z hz => hz, fun o _ L S h hf => ⟨fun y hy => ?_, fun r hr => ?_⟩⟩
  · unfold qa_q at hy
    split at hy
    · cases hy
    · rename_i z hz
      cases hy
      exact hg L S h _ hf hz
  · unfold qa_q at hr
    split at hr <;> cases hr
theorem gd_call {V : qa_H → List Value → Bool} {i na n : Nat} : qa_gd (qh_call V i na n) := by
  refine ⟨fun o o' ho L S h z hz => ?_, fun o ho L S h hf => ⟨fun y hy => ?_, fun r hr => ?_⟩⟩
  · unfold qh_call at hz ⊢
    split at hz
    · rename_i hc
      rw [if_pos hc]
      cases hr : o i (S.take na).reverse h with
      | none => rw [hr] at hz; cases hz
      | some r =>
        rw [hr] at hz
        rw [ho _ _ _ _ hr]
        exact hz
    · cases hz
  · unfold qh_call at hy
    split at hy
    · split at hy
      · rename_i r hr
        cases hy
        exact ho _ _ _ _ hr hf
      · cases hy
    · cases hy
  · unfold qh_call at hr
    split at hr
    · split at hr <;> cases hr
    · cases hr
theorem qa_fo.up {h : qa_H} {a : Nat} {x : qa_C} (hf : qa_fo h) (ha : 64 ≤ a ∧ a < 64 + h.2.1) : qa_fo (qa_up h.1 a x, h.2) := fun b hb => by
  have hb : b < 64 ∨ 64 + h.2.1 ≤ b := hb
  show qa_up h.1 a x b = _
  rw [qa_up_n (by omega)]
  exact hf b hb
theorem qa_fo.nw {h : qa_H} {x : qa_C} {g : Nat × Nat} (hf : qa_fo h) : qa_fo (qa_up h.1 (64 + h.2.1) x, h.2.1 + 1, g) := fun b hb => by
  have hb : b < 64 ∨ 64 + (h.2.1 + 1) ≤ b := hb
  show qa_up h.1 (64 + h.2.1) x b = _
  rw [qa_up_n (by omega)]
  exact hf b (by omega)
theorem qa_arr_in {h : qa_H} {a t : Nat} {x : vp_A} (e : qa_arr h a t = some x) : 64 ≤ a ∧ a < 64 + h.2.1 := by
  unfold qa_arr at e
  split at e
  · assumption
  · cases e
theorem gq_get {ci k n : Nat} : qa_gd (qa_q (qh_get ci k n)) := gd_q (fun L S h y hf hy => by
  unfold qh_get at hy
  split at hy
  · split at hy
    · split at hy
      · cases hy; exact hf
      · cases hy
    · cases hy
  · cases hy)
theorem gq_put {ci k n : Nat} {ty : FieldType} : qa_gd (qa_q (qh_put ci k ty n)) := gd_q (fun L S h y hf hy => by
  unfold qh_put at hy
  split at hy
  · split at hy
    · rename_i fs hfs
      split at hy
      · cases hy; exact hf.up (qa_obj_at hfs).1
      · cases hy
    · cases hy
  · cases hy)
theorem gq_new {ci n : Nat} {ds : List Value} : qa_gd (qa_q (qh_new ci ds n)) := gd_q (fun L S h y hf hy => by
  unfold qh_new at hy
  split at hy
  · cases hy; exact hf.nw
  · cases hy)
theorem gq_newa {t n : Nat} {ty : FieldType} : qa_gd (qa_q (qh_newa t ty n)) := gd_q (fun L S h y hf hy => by
  unfold qh_newa at hy
  split at hy
  · split at hy
    · cases hy; exact hf.nw
    · cases hy
  · cases hy)
theorem gq_anew {t n : Nat} : qa_gd (qa_q (qh_anew t n)) := gd_q (fun L S h y hf hy => by
  unfold qh_anew at hy
  split at hy
  · split at hy
    · cases hy; exact hf.nw
    · cases hy
  · cases hy)
theorem gq_oi {n : Nat} : qa_gd (qa_q (qh_oi n)) := gd_q (fun L S h y hf hy => by
  unfold qh_oi at hy
  split at hy
  · split at hy
    · cases hy; exact hf
    · cases hy
  · cases hy)
theorem gq_len {t n : Nat} : qa_gd (qa_q (qh_len t n)) := gd_q (fun L S h y hf hy => by
  unfold qh_len at hy
  split at hy
  · split at hy
    · cases hy; exact hf
    · cases hy
  · cases hy)
theorem gq_iald {n : Nat} : qa_gd (qa_q (qh_iald n)) := gd_q (fun L S h y hf hy => by
  unfold qh_iald at hy
  split at hy
  · split at hy
    · split at hy
      · cases hy
      · cases hy; exact hf
    · cases hy
  · cases hy)
theorem gq_iast {n : Nat} : qa_gd (qa_q (qh_iast n)) := gd_q (fun L S h y hf hy => by
  unfold qh_iast at hy
  split at hy
  · split at hy
    · rename_i N f hq
      split at hy
      · cases hy
      · cases hy; exact hf.up (qa_arr_in hq)
    · cases hy
  · cases hy)
theorem gq_aast {t ci n : Nat} : qa_gd (qa_q (qh_aast t ci n)) := gd_q (fun L S h y hf hy => by
  unfold qh_aast at hy
  split at hy
  · split at hy
    · rename_i N f fs hq hv
      split at hy
      · cases hy
      · cases hy; exact hf.up (qa_arr_in hq)
    · cases hy
  · cases hy)
theorem qa_run_gd {cd : qa_Cd} (hcd : ∀ pc op, cd pc = some op → qa_gd op) {o o' : qa_O} (ho : qa_le o o') (hf : ∀ k As h r, o k As h = some r → qa_fo h → qa_fo r.2) : ∀ {k : Nat} {x : qa_F} {r : Option Value × qa_H}, qa_run o cd k x = some r → qa_run o' cd k x = some r ∧ (qa_fo x.2.2.2 → qa_fo r.2)
  | 0, x, r, h => by cases h
  | k + 1, x, r, h => by
    unfold qa_run at h ⊢
    cases hc : cd x.1 with
    | none => rw [hc] at h; cases h
    | some op =>
      obtain ⟨g1, g2⟩ := hcd _ _ hc
      rw [hc] at h
      dsimp only at h ⊢
      cases hz : op o x.2.1 x.2.2.1 x.2.2.2 with
      | none => rw [hz] at h; cases h
      | some z =>
        rw [hz] at h
        rw [g1 o o' ho _ _ _ _ hz]
        cases z with
        | inl y =>
          obtain ⟨e1, e2⟩ := qa_run_gd hcd ho hf (x := y) h
          exact ⟨e1, fun hx => e2 ((g2 o hf _ _ _ hx).1 y hz)⟩
        | inr q =>
          cases h
          exact ⟨rfl, fun hx => (g2 o hf _ _ _ hx).2 _ hz⟩
theorem gd_0_0 : qa_all (fun _ op => qa_gd op) qc_0_0 := ⟨gd_p (g := qp_ald 0 1), gq_oi, gd_p (g := qp_ald 0 5), gq_new, gd_p (g := qp_dup 9), gd_call, gq_put, gd_p (g := qp_ald 0 16), gq_new, gd_p (g := qp_dup 20), gd_call, gq_put, gd_p (g := qp_ald 0 27), gq_new, gd_p (g := qp_dup 31), gd_call, gq_put, gd_p (g := qp_ald 0 38), gq_new, gd_p (g := qp_dup 42), gd_call, gq_put, gd_p (g := qp_ald 0 49), gq_new, gd_p (g := qp_dup 53), gd_call, gq_put, gd_p (g := qp_ald 0 60), gq_new, gd_p (g := qp_dup 64), gd_p (g := qp_ald 0 65), gq_get, gd_call, gq_put, gd_p (g := qp_ald 0 75), gq_new, gd_p (g := qp_dup 79), gd_p (g := qp_ald 0 80), gq_get, gd_p (g := qp_ald 0 84), trivial⟩
theorem gd_0_1 : qa_all (fun _ op => qa_gd op) qc_0_1 := ⟨gq_get, gd_call, gq_put, gd_p (g := qp_ald 0 94), gq_new, gd_p (g := qp_dup 98), gd_call, gq_put, gd_p (g := qp_ald 0 105), gq_new, gd_p (g := qp_dup 109), gd_call, gq_put, gd_p (g := qp_ald 0 116), gq_new, gd_p (g := qp_dup 120), gd_call, gq_put, gd_p (g := qp_ald 0 127), gq_new, gd_p (g := qp_dup 131), gd_call, gq_put, gd_p (g := qp_ald 0 138), gd_p (g := qp_c (.int 2) 139), gq_anew, gq_put, gd_p (g := qp_c (.int 0) 146), gd_p (g := qp_ist 1 147), gd_p (g := qp_ild 1 148), gd_p (g := qp_c (.int 2) 149), gd_p (g := qp_icge 171 152), gd_p (g := qp_ald 0 153), gq_get, gd_p (g := qp_ild 1 157), gq_new, gd_p (g := qp_dup 161), gd_call, gq_aast, gd_p (g := qp_inc 1 1 168), trivial⟩
theorem gd_0_2 : qa_all (fun _ op => qa_gd op) qc_0_2 := ⟨gd_p (g := qp_goto 147), gd_p (g := qp_ald 0 172), gd_p (g := qp_c (.int 16) 174), gq_newa, gq_put, gd_p (g := qp_ald 0 180), gd_p (g := qp_c (.int 4) 181), gq_newa, gq_put, gd_p (g := qp_ald 0 187), gq_get, gd_p (g := qp_c (.int (-1)) 191), gd_call, gd_p (g := qp_ald 0 195), gd_p (g := qp_c (.int (-1)) 196), gq_put, gd_p (g := qp_ald 0 200), gd_p (g := qp_c (.int (-1)) 201), gq_put, gd_p (g := qp_ald 0 205), gd_p (g := qp_c (.int (-1)) 206), gq_put, gd_p (g := qp_ald 0 210), gq_get, gd_call, gd_p (g := qp_ald 0 217), gq_get, gd_p (g := qp_ald 0 221), gq_get, gd_call, gd_r, trivial⟩
theorem gd_0 : qa_all (fun _ op => qa_gd op) qc_0 := qa_all_app gd_0_0 (qa_all_app gd_0_1 (gd_0_2))
theorem gd_1 : qa_all (fun _ op => qa_gd op) qc_1 := ⟨gd_p (g := qp_ald 0 1), gq_oi, gd_p (g := qp_ald 0 5), gd_p (g := qp_c (.int 940) 8), gq_newa, gq_put, gd_r, trivial⟩
theorem gd_2 : qa_all (fun _ op => qa_gd op) qc_2 := ⟨gd_p (g := qp_ald 0 1), gq_oi, gd_p (g := qp_ald 0 5), gd_p (g := qp_c (.int 10) 7), gq_newa, gq_put, gd_p (g := qp_ald 0 13), gd_p (g := qp_c (.int 10) 15), gq_newa, gq_put, gd_p (g := qp_ald 0 21), gd_p (g := qp_c (.int 10) 23), gq_newa, gq_put, gd_p (g := qp_ald 0 29), gd_p (g := qp_c (.int 5) 30), gq_newa, gq_put, gd_p (g := qp_ald 0 36), gd_p (g := qp_c (.int 5) 37), gq_newa, gq_put, gd_r, trivial⟩
theorem gd_3 : qa_all (fun _ op => qa_gd op) qc_3 := ⟨gd_p (g := qp_ald 0 1), gq_oi, gd_p (g := qp_ald 0 5), gd_p (g := qp_c (.int 8) 7), gq_newa, gq_put, gd_p (g := qp_ald 0 13), gd_p (g := qp_c (.int 8) 15), gq_newa, gq_put, gd_p (g := qp_ald 0 21), gd_p (g := qp_c (.int 8) 23), gq_newa, gq_put, gd_p (g := qp_ald 0 29), gd_p (g := qp_c (.int 10) 31), gq_newa, gq_put, gd_r, trivial⟩
theorem gd_4 : qa_all (fun _ op => qa_gd op) qc_4 := ⟨gd_p (g := qp_ald 0 1), gq_oi, gd_p (g := qp_ald 0 5), gd_p (g := qp_c (.int 40) 7), gq_anew, gq_put, gd_p (g := qp_ald 0 14), gd_p (g := qp_c (.int 40) 16), gq_newa, gq_put, gd_p (g := qp_ald 0 22), gd_p (g := qp_c (.int 40) 24), gq_newa, gq_put, gd_p (g := qp_ald 0 30), gd_p (g := qp_c (.int 40) 32), gq_newa, gq_put, gd_r, trivial⟩
theorem gd_5 : qa_all (fun _ op => qa_gd op) qc_5 := ⟨gd_p (g := qp_ald 0 1), gq_oi, gd_p (g := qp_ald 0 5), gd_p (g := qp_c (.int 8) 7), gq_anew, gq_put, gd_p (g := qp_c (.int 0) 14), gd_p (g := qp_ist 1 15), gd_p (g := qp_ild 1 16), gd_p (g := qp_c (.int 8) 18), gd_p (g := qp_icge 40 21), gd_p (g := qp_ald 0 22), gq_get, gd_p (g := qp_ild 1 26), gq_new, gd_p (g := qp_dup 30), gd_call, gq_aast, gd_p (g := qp_inc 1 1 37), gd_p (g := qp_goto 15), gd_r, trivial⟩
theorem gd_6 : qa_all (fun _ op => qa_gd op) qc_6 := ⟨gd_p (g := qp_ald 0 1), gq_oi, gd_p (g := qp_ald 0 5), gd_p (g := qp_c (.int 8) 7), gq_newa, gq_put, gd_p (g := qp_ald 0 13), gd_p (g := qp_ald 1 14), gq_put, gd_p (g := qp_ald 0 18), gq_new, gd_p (g := qp_dup 22), gd_p (g := qp_ald 1 23), gd_call, gq_put, gd_r, trivial⟩
theorem gd_7 : qa_all (fun _ op => qa_gd op) qc_7 := ⟨gd_p (g := qp_ald 0 1), gq_oi, gd_p (g := qp_ald 0 5), gd_p (g := qp_c (.int 11) 7), gq_newa, gq_put, gd_p (g := qp_ald 0 13), gd_p (g := qp_ald 1 14), gq_put, gd_r, trivial⟩
theorem gd_8 : qa_all (fun _ op => qa_gd op) qc_8 := ⟨gd_p (g := qp_ald 0 1), gq_oi, gd_p (g := qp_ald 0 5), gd_p (g := qp_c (.int 2048) 8), gq_newa, gq_put, gd_p (g := qp_ald 0 14), gd_p (g := qp_c (.int 10) 16), gq_newa, gq_put, gd_p (g := qp_ald 0 22), gd_p (g := qp_c (.int 8) 24), gq_newa, gq_put, gd_p (g := qp_ald 0 30), gd_p (g := qp_ald 1 31), gq_put, gd_p (g := qp_ald 0 35), gd_p (g := qp_ald 2 36), gq_put, gd_p (g := qp_ald 0 40), gd_p (g := qp_ald 2 41), gq_get, gq_put, gd_r, trivial⟩
theorem gd_9 : qa_all (fun _ op => qa_gd op) qc_9 := ⟨gd_p (g := qp_ald 0 1), gq_oi, gd_p (g := qp_ald 0 5), gd_p (g := qp_c (.int 40) 7), gq_newa, gq_put, gd_p (g := qp_ald 0 13), gd_p (g := qp_c (.int 40) 15), gq_newa, gq_put, gd_p (g := qp_ald 0 21), gd_p (g := qp_c (.int 40) 23), gq_newa, gq_put, gd_p (g := qp_ald 0 29), gd_p (g := qp_c (.int 40) 31), gq_newa, gq_put, gd_p (g := qp_ald 0 37), gd_p (g := qp_c (.int 40) 39), gq_newa, gq_put, gd_r, trivial⟩
theorem gd_10 : qa_all (fun _ op => qa_gd op) qc_10 := ⟨gd_p (g := qp_ald 0 1), gq_oi, gd_p (g := qp_ald 0 5), gq_new, gd_p (g := qp_dup 9), gd_call, gq_put, gd_p (g := qp_ald 0 16), gq_new, gd_p (g := qp_dup 20), gd_call, gq_put, gd_p (g := qp_ald 0 27), gq_new, gd_p (g := qp_dup 31), gd_call, gq_put, gd_r, trivial⟩
theorem gd_11 : qa_all (fun _ op => qa_gd op) qc_11 := ⟨gd_p (g := qp_c (.int 0) 1), gd_p (g := qp_ist 2 2), gd_p (g := qp_ald 0 3), gq_len, gd_p (g := qp_ist 3 5), gd_p (g := qp_ild 2 6), gd_p (g := qp_ild 3 7), gd_p (g := qp_icge 20 10), gd_p (g := qp_ald 0 11), gd_p (g := qp_ild 2 12), gd_p (g := qp_ild 1 13), gq_iast, gd_p (g := qp_inc 2 1 17), gd_p (g := qp_goto 5), gd_r, trivial⟩
theorem gd_12 : qa_all (fun _ op => qa_gd op) qc_12 := ⟨gd_p (g := qp_ald 0 1), gd_p (g := qp_c (.int 4) 2), gq_put, gd_p (g := qp_ald 0 6), gd_p (g := qp_c (.int 0) 7), gq_put, gd_p (g := qp_ald 0 11), gd_p (g := qp_c (.int 0) 12), gq_put, gd_p (g := qp_ald 0 16), gd_p (g := qp_c (.int 1) 17), gq_put, gd_p (g := qp_ald 0 21), gd_p (g := qp_c (.int 0) 22), gq_put, gd_p (g := qp_ald 0 26), gd_p (g := qp_c (.int 0) 27), gq_put, gd_p (g := qp_ald 0 31), gd_p (g := qp_c (.int 0) 32), gq_put, gd_p (g := qp_ald 0 36), gd_p (g := qp_c (.int 0) 37), gq_put, gd_r, trivial⟩
theorem gd_13 : qa_all (fun _ op => qa_gd op) qc_13 := ⟨gd_p (g := qp_ald 0 1), gq_get, gd_p (g := qp_c (.int (-1)) 5), gd_call, gd_p (g := qp_ald 0 9), gq_get, gd_p (g := qp_c (.int 0) 13), gd_call, gd_p (g := qp_ald 0 17), gq_get, gd_p (g := qp_c (.int 0) 21), gd_call, gd_p (g := qp_ald 0 25), gq_get, gd_p (g := qp_c (.int 0) 29), gd_call, gd_p (g := qp_ald 0 33), gd_p (g := qp_c (.int 0) 34), gq_put, gd_p (g := qp_ald 0 38), gd_p (g := qp_ald 1 39), gq_get, gq_put, gd_p (g := qp_ald 0 46), gd_p (g := qp_c (.int 0) 47), gq_put, gd_p (g := qp_ald 0 51), gd_p (g := qp_c (.int 0) 52), gq_put, gd_p (g := qp_ald 0 56), gd_p (g := qp_c (.int 0) 57), gq_put, gd_p (g := qp_ald 0 61), gd_p (g := qp_c (.int 0) 62), gq_put, gd_r, trivial⟩
theorem gd_165_0 : qa_all (fun _ op => qa_gd op) qc_165_0 := ⟨gd_p (g := qp_ald 0 1), gq_oi, gd_p (g := qp_ald 0 5), gd_p (g := qp_c (.int 940) 8), gq_newa, gq_put, gd_p (g := qp_ald 0 14), gd_p (g := qp_c (.int 312) 17), gq_newa, gq_put, gd_p (g := qp_ald 0 23), gd_p (g := qp_c (.int 30) 25), gq_newa, gq_put, gd_p (g := qp_ald 0 31), gd_p (g := qp_c (.int 624) 34), gq_newa, gq_put, gd_p (g := qp_ald 0 40), gd_p (g := qp_c (.int 320) 43), gq_newa, gq_put, gd_p (g := qp_ald 0 49), gd_p (g := qp_c (.int 40) 51), gq_newa, gq_put, gd_p (g := qp_ald 0 57), gd_p (g := qp_c (.int 15) 59), gq_newa, gq_put, gd_p (g := qp_ald 0 65), gd_p (g := qp_c (.int 15) 67), gq_newa, gq_put, gd_p (g := qp_ald 0 73), gd_p (g := qp_c (.int 30) 75), gq_newa, gq_put, gd_p (g := qp_ald 0 81), gd_p (g := qp_c (.int 2) 82), trivial⟩
theorem gd_165_1 : qa_all (fun _ op => qa_gd op) qc_165_1 := ⟨gq_newa, gq_put, gd_p (g := qp_ald 0 88), gd_p (g := qp_c (.int 2) 89), gq_newa, gq_put, gd_p (g := qp_ald 0 95), gd_p (g := qp_c (.int 8) 97), gq_newa, gq_put, gd_p (g := qp_ald 0 103), gd_p (g := qp_c (.int (-1)) 104), gq_put, gd_p (g := qp_ald 0 108), gd_p (g := qp_c (.int 1024) 111), gq_newa, gq_put, gd_p (g := qp_ald 0 117), gd_p (g := qp_c (.int 8) 119), gq_newa, gq_put, gd_p (g := qp_ald 0 125), gd_p (g := qp_c (.int (-1)) 126), gq_put, gd_p (g := qp_ald 0 130), gd_p (g := qp_c (.int (-1)) 131), gq_put, gd_p (g := qp_ald 0 135), gd_p (g := qp_c (.int 8) 137), gq_newa, gq_put, gd_p (g := qp_ald 0 143), gd_p (g := qp_c (.int 64) 145), gq_newa, gq_put, gd_p (g := qp_ald 0 151), gd_p (g := qp_c (.int 200) 154), gq_newa, gq_put, gd_p (g := qp_ald 0 160), trivial⟩
theorem gd_165_2 : qa_all (fun _ op => qa_gd op) qc_165_2 := ⟨gd_p (g := qp_c (.int 4) 161), gq_newa, gq_put, gd_p (g := qp_ald 0 167), gd_p (g := qp_c (.int 240) 170), gq_newa, gq_put, gd_p (g := qp_ald 0 176), gq_get, gd_p (g := qp_c (.int 0) 180), gd_p (g := qp_c (.int 4) 181), gq_iast, gd_p (g := qp_ald 0 183), gq_get, gd_p (g := qp_c (.int 3) 187), gd_p (g := qp_c (.int 1) 188), gq_iast, gd_p (g := qp_ald 0 190), gd_call, gd_r, trivial⟩
theorem gd_165 : qa_all (fun _ op => qa_gd op) qc_165 := qa_all_app gd_165_0 (qa_all_app gd_165_1 (gd_165_2))
theorem gd_166 : qa_all (fun _ op => qa_gd op) qc_166 := ⟨gd_p (g := qp_c (.int 30) 2), gd_p (g := qp_ist 1 3), gd_p (g := qp_ild 1 4), gd_p (g := qp_c (.int 312) 7), gd_p (g := qp_icge 23 10), gd_p (g := qp_ald 0 11), gq_get, gd_p (g := qp_ild 1 15), gd_p (g := qp_c (.int 0) 16), gq_iast, gd_p (g := qp_inc 1 1 20), gd_p (g := qp_goto 3), gd_p (g := qp_ald 0 24), gq_get, gd_p (g := qp_c (.int 31) 29), gd_p (g := qp_ald 0 30), gq_get, gd_p (g := qp_c (.int 4) 34), gq_iald, gq_iast, gd_p (g := qp_c (.int 0) 37), gd_p (g := qp_ist 1 38), gd_p (g := qp_ild 1 39), gd_p (g := qp_c (.int 8) 41), gd_p (g := qp_icge 60 44), gd_p (g := qp_ald 0 45), gq_get, gd_p (g := qp_c (.int 36) 50), gd_p (g := qp_ild 1 51), gd_p (g := qp_iadd 52), gd_p (g := qp_c (.int (-1)) 53), gq_iast, gd_p (g := qp_inc 1 1 57), gd_p (g := qp_goto 38), gd_r, trivial⟩
def q0_K (i : Nat) : Bool := decide (i < 14) || decide (i = 165) || decide (i = 166)
theorem gd_K (i : Nat) (h : q0_K i = true) : ∀ pc op, qa_cd (qm_c i) pc = some op → qa_gd op := by
  have hi : i < 14 ∨ i = 165 ∨ i = 166 := by
    unfold q0_K at h
    simp only [Bool.or_eq_true, decide_eq_true_eq] at h
    omega
  have key : qa_all (fun _ op => qa_gd op) (qm_c i) := by
    rcases hi with hi | hi | hi
    · match i, hi with
      | 0, _ => exact gd_0
      | 1, _ => exact gd_1
      | 2, _ => exact gd_2
      | 3, _ => exact gd_3
      | 4, _ => exact gd_4
      | 5, _ => exact gd_5
      | 6, _ => exact gd_6
      | 7, _ => exact gd_7
      | 8, _ => exact gd_8
      | 9, _ => exact gd_9
      | 10, _ => exact gd_10
      | 11, _ => exact gd_11
      | 12, _ => exact gd_12
      | 13, _ => exact gd_13
      | n + 14, h => exact absurd h (by omega)
    · subst hi; exact gd_165
    · subst hi; exact gd_166
  exact fun pc op ho => qa_all_at key pc op ho
def qf (fu : Nat) : Nat → qa_O
  | 0 => fun _ _ _ => none
  | d + 1 => fun i av h => if q0_K i = true ∧ (qa_ent0 av).length ≤ (qm i).2.2.1 then qa_run (qf fu d) (qa_cd (qm_c i)) fu (0, qa_ent (qm i).2.2.1 av, [], h) else none
theorem qf_ok (fu : Nat) : ∀ d i av h r, qf fu d i av h = some r → qe d i av h = some r ∧ (qa_fo h → qa_fo r.2)
  | 0, _, _, _, _, e => by cases e
  | d + 1, i, av, h, r, e => by
    have e2 : (if q0_K i = true ∧ (qa_ent0 av).length ≤ (qm i).2.2.1 then qa_run (qf fu d) (qa_cd (qm_c i)) fu (0, qa_ent (qm i).2.2.1 av, [], h) else none) = some r := e
    split at e2
    · rename_i hc
      have hi : i < 14 ∨ i = 165 ∨ i = 166 := by
        have := hc.1
        unfold q0_K at this
        simp only [Bool.or_eq_true, decide_eq_true_eq] at this
        omega
      obtain ⟨g1, g2⟩ := qa_run_gd (gd_K i hc.1) (o' := qe d) (fun k As h r hr => (qf_ok fu d k As h r hr).1) (fun k As h r hr => (qf_ok fu d k As h r hr).2) e2
      refine ⟨?_, g2⟩
      show (if (i < 295 ∧ i ≠ 66 ∧ i ≠ 111) ∧ (qa_ent0 av).length ≤ (qm i).2.2.1 then qa_lm (qe d) (qa_cd (qm_c i)) (0, qa_ent (qm i).2.2.1 av, [], h) else none) = some r
      rw [if_pos ⟨by omega, hc.2⟩]
      exact qa_lm_of g1
    · cases e2
def q0_1 : qa_H := (qa_up q0_f 64 (.inr (10, [.null, .null, .null, .null, .null, .null, .null, .null, .null, .null, .null, .null, .null, .null, .int 0, .int 0, .int 0, .int 0])), 1, 1, 18)
def q0_gt (x : Option (Option Value × qa_H)) : qa_H := match x with
  | some r => r.2
  | none => (q0_f, 0, 0, 0)
def q0_2 : qa_H := q0_gt (qf 6000 100 0 [.ref 64] q0_1)
def q0_3 : qa_H := (qa_up q0_2.1 192 (.inr (11, [.int 0, .null, .int 0, .int 0, .int 0, .int 0, .int 0, .int 0, .int 0, .int 0, .int 0, .int 0, .long 0, .int 0, .null, .null, .null, .null, .null, .null, .null, .null, .null, .null, .int 0, .null, .int 0, .int 0, .null, .null, .int 0, .int 0, .null, .null, .int 0, .int 0, .null, .null, .int 0, .int 0, .null, .int 0, .int 0, .int 0, .int 0])), 129, 129, 4769)
def q0_4 : qa_H := q0_gt (qf 6000 100 165 [.ref 192] q0_3)
def q0_5 : Nat → qa_C := qa_up q0_4.1 212 (.inl (1, 1, .inr (.inl (fun _ => 0))))
def q0_sm (x : Option (Option Value × qa_H)) : Bool × Nat × Nat × Nat := match x with
  | some (none, h) => (true, h.2)
  | _ => (false, 0, 0, 0)
set_option maxRecDepth 100000 in
theorem q0_ea : q0_sm (qf 6000 100 0 [.ref 64] q0_1) = (true, 128, 128, 4724) := by decide +kernel
set_option maxRecDepth 100000 in
theorem q0_eb : q0_sm (qf 6000 100 165 [.ref 192] q0_3) = (true, 148, 148, 8655) := by decide +kernel
