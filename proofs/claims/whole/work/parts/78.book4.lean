/-! a line of a book, read by both: its head, its four kinds -/
theorem pm_head (d : Nat) (c : Nat × Nat) {B : qb_M} {n l : Nat} {b : Nat → Nat} {p : Nat} (hM : rM B n l b p) {v L : Nat} (hv : v ≤ 5) (hw : kh n l b p v) (hL : L < 40) (h38 : B.1 192 38 = nI L) : ∃ B1, rM B1 n l b (tx_e n l b p) ∧ B1.1 209 (5 * L) = nI v ∧ qG (fun x k => x = 192 ∧ (5 ≤ k ∧ k ≤ 9 ∨ k = 12) ∨ x = 209 ∧ 5 * L ≤ k ∧ k ≤ 5 * L + 4) B B1 ∧ ∀ u R, qa_lm (qe (d + 7)) (qa_cd qc_270) (102, [.ref 192, .int (nI v), .int (nI (5 * L)), .int (nI 5)], [], (qb_hp (qj u B1), 149, c)) = R → qe (d + 8) 270 [.ref 192] (qb_hp (qj u B), 149, c) = R := by
  have hg : qG (fun x k => x = 209 ∧ 5 * L ≤ k ∧ k ≤ 5 * L + 4) B (qb_ui (qb_ui (qb_ui (qb_ui (qb_ui B 209 (5 * L) (nI v)) 209 (5 * L + 1) 0) 209 (5 * L + 2) 0) 209 (5 * L + 3) 0) 209 (5 * L + 4) 0) := ((((qG.rf.ui (by omega)).ui (by omega)).ui (by omega)).ui (by omega)).ui (by omega)
  have hv0 : (qb_ui (qb_ui (qb_ui (qb_ui (qb_ui B 209 (5 * L) (nI v)) 209 (5 * L + 1) 0) 209 (5 * L + 2) 0) 209 (5 * L + 3) 0) 209 (5 * L + 4) 0).1 209 (5 * L) = nI v := by
    rw [qb_ui_1n (by omega), qb_ui_1n (by omega), qb_ui_1n (by omega), qb_ui_1n (by omega)]
    exact qb_ui_1s
  have zs : ∀ (u X : qb_M) (i : Nat) R, i < 5 → qa_lm (qe (d + 7)) (qa_cd qc_270) (78, [.ref 192, .int (nI v), .int (nI (5 * L)), .int (nI (i + 1))], [], (qb_hp (qj u (qb_ui X 209 (5 * L + i) 0)), 149, c)) = R → qa_lm (qe (d + 7)) (qa_cd qc_270) (78, [.ref 192, .int (nI v), .int (nI (5 * L)), .int (nI i)], [], (qb_hp (qj u X), 149, c)) = R := fun u X i R hi hR => by
    refine go_ild_4_3 rfl ?_
    refine go_c rfl ?_
    refine go_icge rfl (fun e => ?_) (fun e => ?_)
    · exact absurd e (by rw [show (5 : Int32) = nI 5 from rfl]; exact fun z => absurd ((nI_leI (by omega) (by omega)).mp z) (by omega))
    · refine go_ald_4_0 rfl ?_
      refine go_getr rfl ⟨_, rfl, rfl, by decide, by decide⟩ ?_
      refine go_ild_4_2 rfl ?_
      refine go_ild_4_3 rfl ?_
      refine go_iadd rfl ?_
      rw [nI_add]
      refine go_c rfl ?_
      refine go_iast (j := 5 * L + i) rfl (⟨rfl, by decide, by decide, by decide⟩) (rfl) (by omega) ?_
      rw [qj_UI (by decide)]
      refine go_inc_4_3 rfl rfl ?_
      refine go_goto rfl ?_
      rw [nI_1]
      exact hR
  have z4 : ∀ (u X : qb_M) R, qa_lm (qe (d + 7)) (qa_cd qc_270) (98, [.ref 192, .int (nI v), .int (nI (5 * L)), .int (nI 5)], [], (qb_hp (qj u (qb_ui (qb_ui (qb_ui (qb_ui X 209 (5 * L + 1) 0) 209 (5 * L + 2) 0) 209 (5 * L + 3) 0) 209 (5 * L + 4) 0)), 149, c)) = R → qa_lm (qe (d + 7)) (qa_cd qc_270) (78, [.ref 192, .int (nI v), .int (nI (5 * L)), .int (nI 1)], [], (qb_hp (qj u X), 149, c)) = R := fun u X R hR => zs u _ 1 R (by decide) (zs u _ 2 R (by decide) (zs u _ 3 R (by decide) (zs u _ 4 R (by decide) (by
    refine go_ild_4_3 rfl ?_
    refine go_c rfl ?_
    refine go_icge rfl (fun e => ?_) (fun e => ?_)
    · exact hR
    · exact absurd (by decide) e))))
  obtain ⟨B1, m1, m2, m3⟩ := pm_go (d + 4) c (hM.mv hg (fun x k h => by omega))
  refine ⟨B1, m2, (m3.i (by omega)).trans hv0, (hg.mo (fun x k h => Or.inr h)).tr (m3.mo (fun x k h => Or.inl h)), fun u R hR => ?_⟩
  refine pm_verbs (d + 4) c hM u v hv (fun i hi => ⟨fun h => kh_one (by omega) hv h hw, fun h => h ▸ hw⟩) R ?_
  have go : qa_lm (qe (d + 7)) (qa_cd qc_270) (47, [.ref 192, .int (nI v), .int (nI 5), .retAddr 0], [], (qb_hp (qj u B), 149, c)) = R := by
    refine go_ald_4_0 rfl ?_
    refine go_geti rfl ⟨_, rfl, rfl, by decide, by decide⟩ ?_
    rw [show (qj u B).1 192 38 = nI L from h38]
    refine go_c rfl ?_
    refine go_icne rfl (fun e => ?_) (fun e => ?_)
    · exact absurd e (by rw [show (40 : Int32) = nI 40 from rfl]; exact fun z => absurd ((nI_eq (by omega) (by omega)).mp z) (by omega))
    · refine go_c rfl ?_
      refine go_ald_4_0 rfl ?_
      refine go_geti rfl ⟨_, rfl, rfl, by decide, by decide⟩ ?_
      rw [show (qj u B).1 192 38 = nI L from h38]
      refine go_imul rfl ?_
      rw [show (5 : Int32) = nI 5 from rfl, pk_mul]
      refine go_ist_4_2 rfl rfl ?_
      refine go_ald_4_0 rfl ?_
      refine go_getr rfl ⟨_, rfl, rfl, by decide, by decide⟩ ?_
      refine go_ild_4_2 rfl ?_
      refine go_ild_4_1 rfl ?_
      refine go_iast (j := 5 * L) rfl (⟨rfl, by decide, by decide, by decide⟩) (rfl) (by omega) ?_
      refine go_c rfl ?_
      refine go_ist_4_3 rfl rfl ?_
      rw [qj_UI (by decide)]
      refine z4 u _ R ?_
      refine go_ald_4_0 rfl ?_
      refine go_call1 rfl (m1 u) (Nat.le_of_ble_eq_true rfl) (qb_qv rfl (by decide) (by decide)) ?_
      exact hR
  refine go_ild_4_1 rfl ?_
  refine go_c rfl ?_
  refine go_icne rfl (fun e => ?_) (fun e => ?_)
  · have h5 : v = 5 := (nI_eq (by omega) (by omega)).mp (e.trans (show (5 : Int32) = nI 5 from rfl))
    subst h5
    have hq := pm_isWord (d + 4) c hM 11 (by decide) u
    refine go_ald_4_0 rfl ?_
    refine go_c rfl ?_
    refine go_call2 rfl (hq) (Nat.le_of_ble_eq_true rfl) (qb_qv rfl (by decide) (by decide)) ?_
    refine go_ifne rfl (fun e2 => ?_) (fun e2 => ?_)
    · exact absurd hw (qB_0.mp e2)
    · exact go
  · exact go
theorem pc_head (d : Nat) (c : Nat × Nat) {A : qb_M} {n l : Nat} {b : Nat → Nat} {p : Nat} (hC : rC A n l b p) {v L : Nat} (hv : v ≤ 5) (hw : kh n l b p v) (hL : L < 40) (h5 : A.1 133 5 = nI L) : ∃ A1, rC A1 n l b (tx_e n l b p) ∧ A1.1 134 L = nI v ∧ qG (fun x k => x = 65 ∧ 5 ≤ k ∧ k ≤ 10 ∨ 134 ≤ x ∧ x ≤ 138 ∧ k = L) A A1 ∧ ∀ u R, qa_lm (qe (d + 7)) (qa_cd qc_132) (85, [.ref 133, .ref 65, .ref 67, .int (nI v)], [], (qb_hp (qj A1 u), 149, c)) = R → qe (d + 8) 132 [.ref 133, .ref 65, .ref 67] (qb_hp (qj A u), 149, c) = R := by
  obtain ⟨X, hX⟩ : ∃ X, X = qb_ui (qb_ui (qb_ui (qb_ui (qb_ui A 134 L (nI v)) 135 L 0) 136 L 0) 137 L 0) 138 L 0 := ⟨_, rfl⟩
  have hg : qG (fun x k => 134 ≤ x ∧ x ≤ 138 ∧ k = L) A X := by
    rw [hX]
    exact ((((qG.rf.ui (by omega)).ui (by omega)).ui (by omega)).ui (by omega)).ui (by omega)
  have hv0 : X.1 134 L = nI v := by
    rw [hX, qb_ui_1n (by omega), qb_ui_1n (by omega), qb_ui_1n (by omega), qb_ui_1n (by omega)]
    exact qb_ui_1s
  obtain ⟨A1, m1, m2, m3⟩ := pc_step (d + 4) c (hC.mv hg (fun x k h => by omega))
  refine ⟨A1, m2, (m3.i (by omega)).trans hv0, (hg.mo (fun x k h => Or.inr h)).tr (m3.mo (fun x k h => Or.inl h)), fun u R hR => ?_⟩
  refine (en_132 (d + 7) 133 65 67 _).trans ?_
  refine go_ald_4_1 rfl ?_
  refine go_call1 rfl (pc_verbAt (d + 5) c hC (nI v) (fun w hw2 h => by rw [kh_one hw2 hv h hw]) (fun h => absurd hw (h v hv)) u) (Nat.le_of_ble_eq_true rfl) rfl ?_
  refine go_ist_4_3 rfl rfl ?_
  refine go_ild_4_3 rfl ?_
  refine go_c rfl ?_
  refine go_icne rfl (fun e => ?_) (fun e => ?_)
  · exact absurd e (nI_m1 (by omega))
  · refine go_ald_4_0 rfl ?_
    refine go_geti rfl ⟨_, rfl, rfl, by decide, by decide⟩ ?_
    rw [show (qj A u).1 133 5 = nI L from h5]
    refine go_c rfl ?_
    refine go_iclt rfl (fun e2 => ?_) (fun e2 => ?_)
    · refine go_ald_4_0 rfl ?_
      refine go_getr rfl ⟨_, rfl, rfl, by decide, by decide⟩ ?_
      refine go_ald_4_0 rfl ?_
      refine go_geti rfl ⟨_, rfl, rfl, by decide, by decide⟩ ?_
      rw [show (qj A u).1 133 5 = nI L from h5]
      refine go_ild_4_3 rfl ?_
      refine go_iast (j := L) rfl (⟨rfl, by decide, by decide, by decide⟩) (rfl) (by omega) ?_
      refine go_ald_4_0 rfl ?_
      refine go_getr rfl ⟨_, rfl, rfl, by decide, by decide⟩ ?_
      refine go_ald_4_0 rfl ?_
      refine go_geti rfl ⟨_, rfl, rfl, by decide, by decide⟩ ?_
      rw [show (qb_ui (qj A u) 134 L (nI v)).1 133 5 = nI L from h5]
      refine go_c rfl ?_
      refine go_iast (j := L) rfl (⟨rfl, by decide, by decide, by decide⟩) (rfl) (by omega) ?_
      refine go_ald_4_0 rfl ?_
      refine go_getr rfl ⟨_, rfl, rfl, by decide, by decide⟩ ?_
      refine go_ald_4_0 rfl ?_
      refine go_geti rfl ⟨_, rfl, rfl, by decide, by decide⟩ ?_
      rw [show (qb_ui (qb_ui (qj A u) 134 L (nI v)) 135 L 0).1 133 5 = nI L from h5]
      refine go_c rfl ?_
      refine go_iast (j := L) rfl (⟨rfl, by decide, by decide, by decide⟩) (rfl) (by omega) ?_
      refine go_ald_4_0 rfl ?_
      refine go_getr rfl ⟨_, rfl, rfl, by decide, by decide⟩ ?_
      refine go_ald_4_0 rfl ?_
      refine go_geti rfl ⟨_, rfl, rfl, by decide, by decide⟩ ?_
      rw [show (qb_ui (qb_ui (qb_ui (qj A u) 134 L (nI v)) 135 L 0) 136 L 0).1 133 5 = nI L from h5]
      refine go_c rfl ?_
      refine go_iast (j := L) rfl (⟨rfl, by decide, by decide, by decide⟩) (rfl) (by omega) ?_
      refine go_ald_4_0 rfl ?_
      refine go_getr rfl ⟨_, rfl, rfl, by decide, by decide⟩ ?_
      refine go_ald_4_0 rfl ?_
      refine go_geti rfl ⟨_, rfl, rfl, by decide, by decide⟩ ?_
      rw [show (qb_ui (qb_ui (qb_ui (qb_ui (qj A u) 134 L (nI v)) 135 L 0) 136 L 0) 137 L 0).1 133 5 = nI L from h5]
      refine go_c rfl ?_
      refine go_iast (j := L) rfl (⟨rfl, by decide, by decide, by decide⟩) (rfl) (by omega) ?_
      rw [qj_ui (by decide), qj_ui (by decide), qj_ui (by decide), qj_ui (by decide), qj_ui (by decide), ← hX]
      refine go_ald_4_1 rfl ?_
      refine go_call1 rfl (m1 u) (Nat.le_of_ble_eq_true rfl) (qb_qv rfl (by decide) (by decide)) ?_
      exact hR
    · exact absurd (by rw [show (40 : Int32) = nI 40 from rfl]; exact (nI_ltI (by omega) (by omega)).mpr (by omega)) e2
