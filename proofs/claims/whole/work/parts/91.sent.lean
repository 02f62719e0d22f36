/-! a sentence: adding a step, saying a node -/
theorem sn_add (d : Nat) (c : Nat × Nat) {A : qb_M} {a w : Nat} (ha : a < 40) (hw : w < 23) (h4 : A.1 150 4 = nI a) (sg v : Int32) : ∃ A', (∀ u, qe (d + 1) 146 [.ref 150, .ref w, .int sg, .int v] (qb_hp (qj A u), 149, c) = some (some (.int (1)), (qb_hp (qj A' u), 149, c))) ∧ A'.2.2 151 a = some w ∧ A'.1 152 a = sg ∧ A'.1 153 a = v ∧ A'.1 150 4 = nI (a + 1) ∧ qG (fun x k => (x = 151 ∨ x = 152 ∨ x = 153) ∧ k = a ∨ x = 150 ∧ k = 4) A A' := by
  refine ⟨qb_ui (qb_ui (qb_ui (qb_up A 151 a (some w)) 152 a sg) 153 a v) 150 4 (nI (a + 1)), fun u => ?_, ?_, ?_, ?_, qb_ui_1s, (((qG.rf.up (by omega)).ui (by omega)).ui (by omega)).ui (by omega)⟩
  · refine (en_146 d 150 w sg v _).trans ?_
    refine go_ald_4_0 rfl ?_
    refine go_geti rfl (qQ_f qQ_150 rfl) ?_
    rw [show (qj A u).1 150 4 = nI a from h4]
    refine go_c rfl ?_
    refine go_iclt rfl (fun e => ?_) (fun e => ?_)
    · refine go_ald_4_0 rfl ?_
      refine go_getr rfl (qQ_f qQ_150 rfl) ?_
      refine go_ald_4_0 rfl ?_
      refine go_geti rfl (qQ_f qQ_150 rfl) ?_
      rw [show (qj A u).1 150 4 = nI a from h4]
      refine go_ald_4_1 rfl ?_
      refine go_wast (j := a) rfl (qQ_150.2.1.1) (hw) (rfl) (by omega) ?_
      rw [qj_up (by decide)]
      refine go_ald_4_0 rfl ?_
      refine go_getr rfl (qQ_f qQ_150 rfl) ?_
      refine go_ald_4_0 rfl ?_
      refine go_geti rfl (qQ_f qQ_150 rfl) ?_
      rw [show (qj (qb_up A 151 a (some w)) u).1 150 4 = nI a from h4]
      refine go_ild_4_2 rfl ?_
      refine go_iast (j := a) rfl (qQ_150.2.1.2.1) (rfl) (by omega) ?_
      rw [qj_ui (by decide)]
      refine go_ald_4_0 rfl ?_
      refine go_getr rfl (qQ_f qQ_150 rfl) ?_
      refine go_ald_4_0 rfl ?_
      refine go_geti rfl (qQ_f qQ_150 rfl) ?_
      rw [show (qj (qb_ui (qb_up A 151 a (some w)) 152 a sg) u).1 150 4 = nI a from h4]
      refine go_ild_4_3 rfl ?_
      refine go_iast (j := a) rfl (qQ_150.2.1.2.2.1) (rfl) (by omega) ?_
      rw [qj_ui (by decide)]
      refine go_ald_4_0 rfl ?_
      refine go_dup_ref rfl ?_
      refine go_geti rfl (qQ_f qQ_150 rfl) ?_
      rw [show (qj (qb_ui (qb_ui (qb_up A 151 a (some w)) 152 a sg) 153 a v) u).1 150 4 = nI a from h4]
      refine go_c rfl ?_
      refine go_iadd rfl ?_
      rw [nI_1]
      refine go_puti rfl (qQ_f qQ_150 rfl) rfl rfl ?_
      rw [qj_ui (by decide)]
      refine go_c rfl ?_
      exact fin_i rfl rfl rfl
    · exact absurd (by rw [show (40 : Int32) = nI 40 from rfl]; exact (nI_ltI (by omega) (by omega)).mpr ha) e
  · exact qb_u_s
  · exact (qb_ui_1n (by omega)).trans ((qb_ui_1n (by omega)).trans qb_ui_1s)
  · exact (qb_ui_1n (by omega)).trans qb_ui_1s
theorem sn_says (d : Nat) (c : Nat × Nat) {B : qb_M} {a : Nat} (ha : a < 60) (h41 : B.1 192 41 = nI a) (x1 x2 x3 x4 : Int32) : ∃ B', (∀ u, qe (d + 1) 284 [.ref 192, .int x1, .int x2, .int x3, .int x4] (qb_hp (qj u B), 149, c) = some (some (.int (nI a)), (qb_hp (qj u B'), 149, c))) ∧ (B'.1 211 (4 * a) = x1 ∧ B'.1 211 (4 * a + 1) = x2 ∧ B'.1 211 (4 * a + 2) = x3 ∧ B'.1 211 (4 * a + 3) = x4) ∧ B'.1 192 41 = nI (a + 1) ∧ qG (fun x k => x = 211 ∧ 4 * a ≤ k ∧ k ≤ 4 * a + 3 ∨ x = 192 ∧ k = 41) B B' := by
  have i1 : ∀ k : Nat, nI (4 * a) + nI k = nI (4 * a + k) := fun k => nI_add _ _
  refine ⟨qb_ui (qb_ui (qb_ui (qb_ui (qb_ui B 211 (4 * a) x1) 211 (4 * a + 1) x2) 211 (4 * a + 2) x3) 211 (4 * a + 3) x4) 192 41 (nI (a + 1)), fun u => ?_, ⟨?_, ?_, ?_, ?_⟩, qb_ui_1s, ((((qG.rf.ui (by omega)).ui (by omega)).ui (by omega)).ui (by omega)).ui (by omega)⟩
  · refine (en_284 d 192 x1 x2 x3 x4 _).trans ?_
    refine go_c rfl ?_
    refine go_ald_6_0 rfl ?_
    refine go_geti rfl ⟨_, rfl, rfl, by decide, by decide⟩ ?_
    rw [show (qj u B).1 192 41 = nI a from h41]
    refine go_imul rfl ?_
    rw [show (4 : Int32) = nI 4 from rfl, pk_mul]
    refine go_ist_6_5 rfl rfl ?_
    refine go_ald_6_0 rfl ?_
    refine go_getr rfl ⟨_, rfl, rfl, by decide, by decide⟩ ?_
    refine go_ild_6_5 rfl ?_
    refine go_ild_6_1 rfl ?_
    refine go_iast (j := 4 * a) rfl (⟨rfl, by decide, by decide, by decide⟩) (rfl) (by omega) ?_
    rw [qj_UI (by decide)]
    refine go_ald_6_0 rfl ?_
    refine go_getr rfl ⟨_, rfl, rfl, by decide, by decide⟩ ?_
    refine go_ild_6_5 rfl ?_
    refine go_c rfl ?_
    refine go_iadd rfl ?_
    rw [nI_1]
    refine go_ild_6_2 rfl ?_
    refine go_iast (j := 4 * a + 1) rfl (⟨rfl, by decide, by decide, by decide⟩) (rfl) (by omega) ?_
    rw [qj_UI (by decide)]
    refine go_ald_6_0 rfl ?_
    refine go_getr rfl ⟨_, rfl, rfl, by decide, by decide⟩ ?_
    refine go_ild_6_5 rfl ?_
    refine go_c rfl ?_
    refine go_iadd rfl ?_
    rw [show (2 : Int32) = nI 2 from rfl, i1]
    refine go_ild_6_3 rfl ?_
    refine go_iast (j := 4 * a + 2) rfl (⟨rfl, by decide, by decide, by decide⟩) (rfl) (by omega) ?_
    rw [qj_UI (by decide)]
    refine go_ald_6_0 rfl ?_
    refine go_getr rfl ⟨_, rfl, rfl, by decide, by decide⟩ ?_
    refine go_ild_6_5 rfl ?_
    refine go_c rfl ?_
    refine go_iadd rfl ?_
    rw [show (3 : Int32) = nI 3 from rfl, i1]
    refine go_ild_6_4 rfl ?_
    refine go_iast (j := 4 * a + 3) rfl (⟨rfl, by decide, by decide, by decide⟩) (rfl) (by omega) ?_
    rw [qj_UI (by decide)]
    refine go_ald_6_0 rfl ?_
    refine go_dup_ref rfl ?_
    refine go_geti rfl ⟨_, rfl, rfl, by decide, by decide⟩ ?_
    rw [show (qj u (qb_ui (qb_ui (qb_ui (qb_ui B 211 (4 * a) x1) 211 (4 * a + 1) x2) 211 (4 * a + 2) x3) 211 (4 * a + 3) x4)).1 192 41 = nI a from h41]
    refine go_c rfl ?_
    refine go_iadd rfl ?_
    rw [nI_1]
    refine go_puti rfl ⟨_, rfl, rfl, by decide, by decide⟩ rfl rfl ?_
    rw [qj_UI (by decide)]
    refine go_ald_6_0 rfl ?_
    refine go_geti rfl ⟨_, rfl, rfl, by decide, by decide⟩ ?_
    rw [show (qj u (qb_ui (qb_ui (qb_ui (qb_ui (qb_ui B 211 (4 * a) x1) 211 (4 * a + 1) x2) 211 (4 * a + 2) x3) 211 (4 * a + 3) x4) 192 41 (nI (a + 1)))).1 192 41 = nI (a + 1) from (qj_I (by decide)).trans qb_ui_1s]
    refine go_c rfl ?_
    refine go_isub rfl ?_
    rw [nI_p1]
    exact fin_i rfl rfl rfl
  · exact (qb_ui_1n (by omega)).trans ((qb_ui_1n (by omega)).trans ((qb_ui_1n (by omega)).trans ((qb_ui_1n (by omega)).trans qb_ui_1s)))
  · exact (qb_ui_1n (by omega)).trans ((qb_ui_1n (by omega)).trans ((qb_ui_1n (by omega)).trans qb_ui_1s))
  · exact (qb_ui_1n (by omega)).trans ((qb_ui_1n (by omega)).trans qb_ui_1s)
  · exact (qb_ui_1n (by omega)).trans qb_ui_1s
