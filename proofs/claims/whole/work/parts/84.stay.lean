/-! what is kept of a book -/
theorem sp_swap (d : Nat) (c : Nat × Nat) (m : qb_M) (b : Int32) : ∀ (n k : Nat), k + n = 40 → ∀ S : qb_M, (∀ j, j < k → S.1 194 (30 + j) = m.1 198 j ∧ S.1 198 j = m.1 194 (30 + j)) → (∀ j, k ≤ j → j < 40 → S.1 194 (30 + j) = m.1 194 (30 + j) ∧ S.1 198 j = m.1 198 j) → qG (fun x k => x = 194 ∧ 30 ≤ k ∧ k < 70 ∨ x = 198) m S → ∃ T : qb_M, (∀ R, (∀ l3 : Value, qa_lm (qe (d)) (qa_cd qc_276) (46, [.ref 192, .int b, .int (nI 40), l3], [], (qb_hp (T), 149, c)) = R) → ∀ l3 : Value, qa_lm (qe (d)) (qa_cd qc_276) (2, [.ref 192, .int b, .int (nI k), l3], [], (qb_hp (S), 149, c)) = R) ∧ (∀ j, j < 40 → T.1 194 (30 + j) = m.1 198 j ∧ T.1 198 j = m.1 194 (30 + j)) ∧ qG (fun x k => x = 194 ∧ 30 ≤ k ∧ k < 70 ∨ x = 198) m T := by
  intro n
  induction n with
  | zero =>
    intro k hk S h1 h2 h3
    have hk : k = 40 := by omega
    subst hk
    refine ⟨S, fun R hR l3 => ?_, h1, h3⟩
    refine go_ild_4_2 rfl ?_
    refine go_c rfl ?_
    refine go_icge rfl (fun e => ?_) (fun e => ?_)
    · exact hR l3
    · exact absurd (by decide) e
  | succ n ih =>
    intro k hk S h1 h2 h3
    obtain ⟨T, t1, t2, t3⟩ := ih (k + 1) (by omega) (qb_ui (qb_ui S 194 (30 + k) (m.1 198 k)) 198 k (m.1 194 (30 + k))) (fun j hj => by
      by_cases e : j = k
      · subst e
        exact ⟨(qb_ui_1n (Or.inl (by decide))).trans qb_ui_1s, qb_ui_1s⟩
      · rw [qb_ui_1n (Or.inl (by decide)), qb_ui_1n (Or.inr (by omega)), qb_ui_1n (Or.inr (by omega)), qb_ui_1n (Or.inl (by decide))]
        exact h1 j (by omega)) (fun j hj hj2 => by
      rw [qb_ui_1n (Or.inl (by decide)), qb_ui_1n (Or.inr (by omega)), qb_ui_1n (Or.inr (by omega)), qb_ui_1n (Or.inl (by decide))]
      exact h2 j (by omega) hj2) ((h3.ui (by omega)).ui (by omega))
    refine ⟨T, fun R hR l3 => ?_, t2, t3⟩
    have hg := h2 k (Nat.le_refl k) (by omega)
    refine go_ild_4_2 rfl ?_
    refine go_c rfl ?_
    refine go_icge rfl (fun e => ?_) (fun e => ?_)
    · exact absurd e (nI_ge (b := 40) (by omega) (by omega))
    · refine go_ald_4_0 rfl ?_
      refine go_getr rfl ⟨_, rfl, rfl, by decide, by decide⟩ ?_
      refine go_c rfl ?_
      refine go_ild_4_2 rfl ?_
      refine go_iadd rfl ?_
      refine go_iald (j := 30 + k) rfl (⟨rfl, by decide, by decide, by decide⟩) (nI_add 30 k) (by omega) ?_
      rw [hg.1]
      refine go_ist_4_3 rfl rfl ?_
      refine go_ald_4_0 rfl ?_
      refine go_getr rfl ⟨_, rfl, rfl, by decide, by decide⟩ ?_
      refine go_c rfl ?_
      refine go_ild_4_2 rfl ?_
      refine go_iadd rfl ?_
      refine go_ald_4_0 rfl ?_
      refine go_getr rfl ⟨_, rfl, rfl, by decide, by decide⟩ ?_
      refine go_ild_4_2 rfl ?_
      refine go_iald (j := k) rfl (⟨rfl, by decide, by decide, by decide⟩) (rfl) (by omega) ?_
      rw [hg.2]
      refine go_iast (j := 30 + k) rfl (⟨rfl, by decide, by decide, by decide⟩) (nI_add 30 k) (by omega) ?_
      refine go_ald_4_0 rfl ?_
      refine go_getr rfl ⟨_, rfl, rfl, by decide, by decide⟩ ?_
      refine go_ild_4_2 rfl ?_
      refine go_ild_4_3 rfl ?_
      refine go_iast (j := k) rfl (⟨rfl, by decide, by decide, by decide⟩) (rfl) (by omega) ?_
      refine go_inc_4_2 rfl rfl ?_
      refine go_goto rfl ?_
      rw [nI_1]
      exact t1 R hR _
theorem sp_stay0 (d : Nat) (c : Nat × Nat) (m : qb_M) : ∃ T : qb_M, qe (d + 1) 276 [.ref 192, .int 0] (qb_hp (m), 149, c) = some (none, (qb_hp (T), 149, c)) ∧ (∀ j, j < 40 → T.1 194 (30 + j) = m.1 198 j) ∧ qG (fun x k => x = 194 ∧ 30 ≤ k ∧ k < 70 ∨ x = 198) m T := by
  obtain ⟨T, t1, t2, t3⟩ := sp_swap d c m 0 40 0 (by omega) m (fun j hj => absurd hj (Nat.not_lt_zero j)) (fun j _ _ => ⟨rfl, rfl⟩) qG.rf
  refine ⟨T, ?_, fun j hj => (t2 j hj).1, t3⟩
  refine (en_276 d 192 0 _).trans ?_
  refine go_c rfl ?_
  refine go_ist_4_2 rfl rfl ?_
  refine t1 _ (fun l3 => ?_) _
  refine go_ild_4_1 rfl ?_
  refine go_ifne rfl (fun e => ?_) (fun e => ?_)
  · exact fin_v rfl rfl
  · exact absurd rfl e
theorem sp_stay1 (d : Nat) (c : Nat × Nat) (m : qb_M) {z : Nat} (hz : z ≤ 8) (hz2 : m.1 192 24 = nI z) : ∃ T : qb_M, qe (d + 2) 276 [.ref 192, .int 1] (qb_hp (m), 149, c) = some (none, (qb_hp (T), 149, c)) ∧ (∀ j, j < 40 → T.1 194 (30 + j) = m.1 194 (30 + j)) ∧ T.1 192 24 = nI (min (z + 1) 8) ∧ (∀ k, k < 40 → qm_sn T (min z 7) k = m.1 198 k) ∧ (∀ j, j < min z 7 → ∀ k, k < 40 → qm_sn T j k = qm_sn m (if z = 8 then j + 1 else j) k) ∧ qG (fun x k => x = 194 ∧ 30 ≤ k ∧ k < 70 ∨ x = 198 ∨ x = 197 ∨ x = 192 ∧ k = 24) m T := by
  obtain ⟨T, t1, t2, t3⟩ := sp_swap (d + 1) c m 1 40 0 (by omega) m (fun j hj => absurd hj (Nat.not_lt_zero j)) (fun j _ _ => ⟨rfl, rfl⟩) qG.rf
  obtain ⟨w, g1, g2, g3, g4, g5⟩ := sp_snap d T c hz ((t3.i (by omega)).trans hz2)
  have tb := sp_takeBackM d w c
  refine ⟨qb_wr w 194 30 40 (fun k => w.1 198 k), ?_, fun j hj => ?_, ?_, fun k hk => ?_, fun j hj k hk => ?_, ((t3.mo (fun x k h => by omega)).tr (g5.mo (fun x k h => by omega))).wr (fun k h1 h2 => by omega)⟩
  · refine (en_276 (d + 1) 192 1 _).trans ?_
    refine go_c rfl ?_
    refine go_ist_4_2 rfl rfl ?_
    refine t1 _ (fun l3 => ?_) _
    refine go_ild_4_1 rfl ?_
    refine go_ifne rfl (fun e => ?_) (fun e => ?_)
    · exact absurd e (by decide)
    · refine go_ald_4_0 rfl ?_
      refine go_call1 rfl (g1) (Nat.le_of_ble_eq_true rfl) (qb_qv rfl (by decide) (by decide)) ?_
      refine go_ald_4_0 rfl ?_
      refine go_call1 rfl (tb) (Nat.le_of_ble_eq_true rfl) (qb_qv rfl (by decide) (by decide)) ?_
      exact fin_v rfl rfl
  · rw [qb_wr_in hj]
    exact (g5.i (by omega)).trans (t2 j hj).2
  · exact (qb_wr_o (Or.inl (by decide))).trans g2
  · exact (qb_wr_o (Or.inl (by decide))).trans ((g3 k hk).trans (t2 k hk).1)
  · refine (qb_wr_o (Or.inl (by decide))).trans ((g4 j hj k hk).trans (t3.i (by omega)))
