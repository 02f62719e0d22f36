/-! a sentence: a one begins, in the reference -/
theorem pm_one (d : Nat) (c : Nat × Nat) {M : qb_M} {n l : Nat} {b : Nat → Nat} {p : Nat} (hM : rM M n l b p) {a o W : Nat} (hS : wS M a o W) (hx : wX n l b p) (ho : o < 20) (hW : W < 8) : ∃ B, rM B n l b (tx_e n l b p) ∧ B.1 192 42 = nI (o + 1) ∧ B.1 192 43 = nI (W + 1) ∧ qG (fun x k => x = 192 ∧ (5 ≤ k ∧ k ≤ 9 ∨ k = 12 ∨ k = 42 ∨ k = 43)) M B ∧ ∀ u, ∃ y : Nat, (tx_k n l b p = 40 ∧ y = 23 ∨ 14 ≤ y ∧ y ≤ 22 ∧ wA n l b p y) ∧ ∀ R, qa_lm (qe (d + 3)) (qa_cd qc_281) (96, [.ref 192, .int (qB (tx_k n l b p = 40)), .int (nI y), .int 1], [], (qb_hp (qj u B), 149, c)) = R → qe (d + 4) 281 [.ref 192] (qb_hp (qj u M), 149, c) = R := by
  obtain ⟨⟨s1, s2⟩, ⟨s3, s4⟩, s5⟩ := hS
  obtain ⟨B, e1, e2, e3⟩ := pm_go d c (hM.mv (P := fun x k => x = 192 ∧ (k = 42 ∨ k = 43)) (N := qb_ui (qb_ui M 192 42 (nI (o + 1))) 192 43 (nI (W + 1))) ((qG.rf.ui (by omega)).ui (by omega)) (fun x k h => by omega))
  refine ⟨B, e2, (e3.i (by omega)).trans ((qb_ui_1n (by omega)).trans qb_ui_1s), (e3.i (by omega)).trans qb_ui_1s, ((qG.rf.ui (by omega)).ui (by omega)).tr (e3.mo (fun x k h => by omega)), fun u => ?_⟩
  obtain ⟨y, hy, hgo⟩ := pm_said d c hM u hx
  refine ⟨y, hy, fun R hR => hgo R ?_⟩
  refine go_ald_4_0 rfl ?_
  refine go_geti rfl ⟨_, rfl, rfl, by decide, by decide⟩ ?_
  rw [show (qj u M).1 192 42 = nI o from s4]
  refine go_c rfl ?_
  refine go_iceq rfl (fun e => ?_) (fun e => ?_)
  · exact absurd ((nI_eq (b := 20) (by omega) (by decide)).mp e) (by omega)
  · refine go_ald_4_0 rfl ?_
    refine go_geti rfl ⟨_, rfl, rfl, by decide, by decide⟩ ?_
    rw [show (qj u M).1 192 43 = nI W from s5]
    refine go_c rfl ?_
    refine go_icne rfl (fun e2 => ?_) (fun e2 => ?_)
    · exact absurd ((nI_eq (b := 8) (by omega) (by decide)).mp e2) (by omega)
    · refine go_ald_4_0 rfl ?_
      refine go_dup_ref rfl ?_
      refine go_geti rfl ⟨_, rfl, rfl, by decide, by decide⟩ ?_
      rw [show (qj u M).1 192 42 = nI o from s4]
      refine go_c rfl ?_
      refine go_iadd rfl ?_
      rw [nI_1]
      refine go_puti rfl ⟨_, rfl, rfl, by decide, by decide⟩ rfl rfl ?_
      rw [qj_UI (by decide)]
      refine go_ald_4_0 rfl ?_
      refine go_dup_ref rfl ?_
      refine go_geti rfl ⟨_, rfl, rfl, by decide, by decide⟩ ?_
      rw [show (qj u (qb_ui M 192 42 (nI (o + 1)))).1 192 43 = nI W from s5]
      refine go_c rfl ?_
      refine go_iadd rfl ?_
      rw [nI_1]
      refine go_puti rfl ⟨_, rfl, rfl, by decide, by decide⟩ rfl rfl ?_
      rw [qj_UI (by decide)]
      refine go_ald_4_0 rfl ?_
      refine go_call1 rfl (e1 u) (Nat.le_of_ble_eq_true rfl) (qb_qv rfl (by decide) (by decide)) ?_
      refine go_c rfl ?_
      refine go_ist_4_3 rfl rfl ?_
      exact hR
