/-! a sentence: a one begins, in both -/
theorem pc_one (d : Nat) (c : Nat × Nat) {M : qb_M} {n l : Nat} {b : Nat → Nat} {p : Nat} (hC : rC M n l b p) {a o W : Nat} (hS : wS M a o W) (hx : wX n l b p) (ho : o < 20) (hW : W < 8) : ∃ A, rC A n l b (tx_e n l b p) ∧ A.1 150 5 = nI (o + 1) ∧ qG (fun x k => x = 65 ∧ 5 ≤ k ∧ k ≤ 10 ∨ x = 150 ∧ k = 5) M A ∧ ∀ u R, qa_lm (qe (d + 3)) (qa_cd qc_143) (54, [.ref 150, .ref 65, .ref 67, .int (nI (W + 1)), qa_rv (M.2.2 65 10)], [], (qb_hp (qj A u), 149, c)) = R → qe (d + 4) 143 [.ref 150, .ref 65, .ref 67, .int (nI (W + 1))] (qb_hp (qj M u), 149, c) = R := by
  obtain ⟨⟨s1, s2⟩, ⟨s3, s4⟩, s5⟩ := hS
  obtain ⟨A, e1, e2, e3⟩ := pc_step d c (hC.mv (P := fun x k => x = 150) (N := qb_ui M 150 5 (nI (o + 1))) (qG.rf.ui rfl) (fun x k h => by omega))
  refine ⟨A, e2, (e3.i (by omega)).trans qb_ui_1s, (qG.rf.ui (by omega)).tr (e3.mo (fun x k h => by omega)), fun u R hR => ?_⟩
  refine (en_143 (d + 3) 150 65 67 (nI (W + 1)) _).trans ?_
  refine go_ald_5_1 rfl ?_
  refine go_call1 rfl (pc_ahead (d + 1) c hC 1 (fun _ => rfl) (fun z => absurd hx z) u) (Nat.le_of_ble_eq_true rfl) rfl ?_
  refine go_ifne rfl (fun e => ?_) (fun e => ?_)
  · exact absurd e (by decide)
  · refine go_ald_5_0 rfl ?_
    refine go_geti rfl (qQ_f qQ_150 rfl) ?_
    rw [show (qj M u).1 150 5 = nI o from s3]
    refine go_c rfl ?_
    refine go_icge rfl (fun e2 => ?_) (fun e2 => ?_)
    · exact absurd e2 (nI_ge (b := 20) (by omega) (by decide))
    · refine go_ild_5_3 rfl ?_
      refine go_c rfl ?_
      refine go_icle rfl (fun e3 => ?_) (fun e3 => ?_)
      · refine go_ald_5_0 rfl ?_
        refine go_dup_ref rfl ?_
        refine go_geti rfl (qQ_f qQ_150 rfl) ?_
        rw [show (qj M u).1 150 5 = nI o from s3]
        refine go_c rfl ?_
        refine go_iadd rfl ?_
        rw [nI_1]
        refine go_puti rfl (qQ_f qQ_150 rfl) rfl rfl ?_
        rw [qj_ui (by decide)]
        refine go_ald_5_1 rfl ?_
        refine go_getp rfl ⟨_, rfl, rfl, by decide, by decide⟩ ?_
        rw [show (qj (qb_ui M 150 5 (nI (o + 1))) u).2.2 65 10 = M.2.2 65 10 from rfl]
        cases hw : M.2.2 65 10 with
        | none =>
          rw [hw] at hR
          refine go_astN_5_4 rfl rfl ?_
          refine go_ald_5_1 rfl ?_
          refine go_call1 rfl (e1 u) (Nat.le_of_ble_eq_true rfl) (qb_qv rfl (by decide) (by decide)) ?_
          exact hR
        | some w =>
          rw [hw] at hR
          refine go_ast_5_4 rfl rfl ?_
          refine go_ald_5_1 rfl ?_
          refine go_call1 rfl (e1 u) (Nat.le_of_ble_eq_true rfl) (qb_qv rfl (by decide) (by decide)) ?_
          exact hR
      · exact absurd (by rw [show (8 : Int32) = nI 8 from rfl]; exact (nI_leI (by omega) (by omega)).mpr (by omega)) e3
