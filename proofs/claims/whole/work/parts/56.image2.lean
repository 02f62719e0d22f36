/-! image, restore -/
theorem qx_mul312 {z k : Nat} : (312 : Int32) * nI z + nI k = nI (312 * z + k) := by rw [show (312 : Int32) = nI 312 from rfl, pk_mul, nI_add]
theorem qx_mul15 {z k : Nat} : (15 : Int32) * nI z + nI k = nI (15 * z + k) := by rw [show (15 : Int32) = nI 15 from rfl, pk_mul, nI_add]
theorem sp_imM1 (d : Nat) (m : qb_M) (c : Nat × Nat) {z : Nat} (hz : z < 2) (R : Option (Option Value × qa_H)) (hR : qa_lm (qe (d)) (qa_cd qc_291) (49, [.ref 192, .int (nI z), .int (nI 312)], [], (qb_hp (qb_wr m 196 (312 * z) 312 (fun k => m.1 194 k)), 149, c)) = R) : ∀ n k, k + n = 312 → qa_lm (qe (d)) (qa_cd qc_291) (18, [.ref 192, .int (nI z), .int (nI k)], [], (qb_hp (qb_wr m 196 (312 * z) k (fun k => m.1 194 k)), 149, c)) = R := by
  intro n
  induction n with
  | zero =>
    intro k hk
    have hk : k = 312 := by omega
    subst hk
    refine go_ild_3_2 rfl ?_
    refine go_c rfl ?_
    refine go_icge rfl (fun e => ?_) (fun e => ?_)
    · exact hR
    · exact absurd (by decide) e
  | succ n ih =>
    intro k hk
    refine go_ild_3_2 rfl ?_
    refine go_c rfl ?_
    refine go_icge rfl (fun e => ?_) (fun e => ?_)
    · exact absurd e (nI_ge (b := 312) (by omega) (by omega))
    · refine go_ald_3_0 rfl ?_
      refine go_getr rfl ⟨_, rfl, rfl, by decide, by decide⟩ ?_
      refine go_c rfl ?_
      refine go_ild_3_1 rfl ?_
      refine go_imul rfl ?_
      refine go_ild_3_2 rfl ?_
      refine go_iadd rfl ?_
      refine go_ald_3_0 rfl ?_
      refine go_getr rfl ⟨_, rfl, rfl, by decide, by decide⟩ ?_
      refine go_ild_3_2 rfl ?_
      refine go_iald (j := k) rfl (⟨rfl, by decide, by decide, by decide⟩) (rfl) (by omega) ?_
      refine go_iast (j := 312 * z + k) rfl (⟨rfl, by decide, by decide, by decide⟩) (qx_mul312) (by omega) ?_
      refine go_inc_3_2 rfl rfl ?_
      refine go_goto rfl ?_
      rw [nI_1, qb_wr_s (g := fun k => m.1 194 k) rfl (show (qb_wr m 196 (312 * z) k (fun k => m.1 194 k)).1 194 k = (fun k => m.1 194 k) k from qb_wr_o (Or.inl (by decide)))]
      exact ih (k + 1) (by omega)
theorem sp_imM2 (d : Nat) (m : qb_M) (c : Nat × Nat) {z : Nat} (hz : z < 2) (R : Option (Option Value × qa_H)) (hR : qa_lm (qe (d)) (qa_cd qc_291) (80, [.ref 192, .int (nI z), .int (nI 15)], [], (qb_hp (qb_wl m 201 (15 * z) 15 (fun k => m.2.1 199 k)), 149, c)) = R) : ∀ n k, k + n = 15 → qa_lm (qe (d)) (qa_cd qc_291) (51, [.ref 192, .int (nI z), .int (nI k)], [], (qb_hp (qb_wl m 201 (15 * z) k (fun k => m.2.1 199 k)), 149, c)) = R := by
  intro n
  induction n with
  | zero =>
    intro k hk
    have hk : k = 15 := by omega
    subst hk
    refine go_ild_3_2 rfl ?_
    refine go_c rfl ?_
    refine go_icge rfl (fun e => ?_) (fun e => ?_)
    · exact hR
    · exact absurd (by decide) e
  | succ n ih =>
    intro k hk
    refine go_ild_3_2 rfl ?_
    refine go_c rfl ?_
    refine go_icge rfl (fun e => ?_) (fun e => ?_)
    · exact absurd e (nI_ge (b := 15) (by omega) (by omega))
    · refine go_ald_3_0 rfl ?_
      refine go_getr rfl ⟨_, rfl, rfl, by decide, by decide⟩ ?_
      refine go_c rfl ?_
      refine go_ild_3_1 rfl ?_
      refine go_imul rfl ?_
      refine go_ild_3_2 rfl ?_
      refine go_iadd rfl ?_
      refine go_ald_3_0 rfl ?_
      refine go_getr rfl ⟨_, rfl, rfl, by decide, by decide⟩ ?_
      refine go_ild_3_2 rfl ?_
      refine go_lald (j := k) rfl (⟨rfl, by decide, by decide, by decide⟩) (rfl) (by omega) ?_
      refine go_last (j := 15 * z + k) rfl (⟨rfl, by decide, by decide, by decide⟩) (qx_mul15) (by omega) ?_
      refine go_inc_3_2 rfl rfl ?_
      refine go_goto rfl ?_
      rw [nI_1, qb_wl_s (g := fun k => m.2.1 199 k) rfl (show (qb_wl m 201 (15 * z) k (fun k => m.2.1 199 k)).2.1 199 k = (fun k => m.2.1 199 k) k from qb_wl_o (Or.inl (by decide)))]
      exact ih (k + 1) (by omega)
theorem sp_reM1 (d : Nat) (m : qb_M) (c : Nat × Nat) {z : Nat} (hz : z < 2) (R : Option (Option Value × qa_H)) (hR : qa_lm (qe (d)) (qa_cd qc_292) (58, [.ref 192, .int (nI z), .int (nI 312)], [], (qb_hp (qb_wr m 194 0 312 (fun k => m.1 196 (312 * z + k))), 149, c)) = R) : ∀ n k, k + n = 312 → qa_lm (qe (d)) (qa_cd qc_292) (27, [.ref 192, .int (nI z), .int (nI k)], [], (qb_hp (qb_wr m 194 0 k (fun k => m.1 196 (312 * z + k))), 149, c)) = R := by
  intro n
  induction n with
  | zero =>
    intro k hk
    have hk : k = 312 := by omega
    subst hk
    refine go_ild_3_2 rfl ?_
    refine go_c rfl ?_
    refine go_icge rfl (fun e => ?_) (fun e => ?_)
    · exact hR
    · exact absurd (by decide) e
  | succ n ih =>
    intro k hk
    refine go_ild_3_2 rfl ?_
    refine go_c rfl ?_
    refine go_icge rfl (fun e => ?_) (fun e => ?_)
    · exact absurd e (nI_ge (b := 312) (by omega) (by omega))
    · refine go_ald_3_0 rfl ?_
      refine go_getr rfl ⟨_, rfl, rfl, by decide, by decide⟩ ?_
      refine go_ild_3_2 rfl ?_
      refine go_ald_3_0 rfl ?_
      refine go_getr rfl ⟨_, rfl, rfl, by decide, by decide⟩ ?_
      refine go_c rfl ?_
      refine go_ild_3_1 rfl ?_
      refine go_imul rfl ?_
      refine go_ild_3_2 rfl ?_
      refine go_iadd rfl ?_
      refine go_iald (j := 312 * z + k) rfl (⟨rfl, by decide, by decide, by decide⟩) (qx_mul312) (by omega) ?_
      refine go_iast (j := k) rfl (⟨rfl, by decide, by decide, by decide⟩) (rfl) (by omega) ?_
      refine go_inc_3_2 rfl rfl ?_
      refine go_goto rfl ?_
      rw [nI_1, qb_wr_s (g := fun k => m.1 196 (312 * z + k)) (by omega) (show (qb_wr m 194 0 k (fun k => m.1 196 (312 * z + k))).1 196 (312 * z + k) = (fun k => m.1 196 (312 * z + k)) k from qb_wr_o (Or.inl (by decide)))]
      exact ih (k + 1) (by omega)
theorem sp_reM2 (d : Nat) (m : qb_M) (c : Nat × Nat) {z : Nat} (hz : z < 2) (R : Option (Option Value × qa_H)) (hR : qa_lm (qe (d)) (qa_cd qc_292) (89, [.ref 192, .int (nI z), .int (nI 15)], [], (qb_hp (qb_wl m 199 0 15 (fun k => m.2.1 201 (15 * z + k))), 149, c)) = R) : ∀ n k, k + n = 15 → qa_lm (qe (d)) (qa_cd qc_292) (60, [.ref 192, .int (nI z), .int (nI k)], [], (qb_hp (qb_wl m 199 0 k (fun k => m.2.1 201 (15 * z + k))), 149, c)) = R := by
  intro n
  induction n with
  | zero =>
    intro k hk
    have hk : k = 15 := by omega
    subst hk
    refine go_ild_3_2 rfl ?_
    refine go_c rfl ?_
    refine go_icge rfl (fun e => ?_) (fun e => ?_)
    · exact hR
    · exact absurd (by decide) e
  | succ n ih =>
    intro k hk
    refine go_ild_3_2 rfl ?_
    refine go_c rfl ?_
    refine go_icge rfl (fun e => ?_) (fun e => ?_)
    · exact absurd e (nI_ge (b := 15) (by omega) (by omega))
    · refine go_ald_3_0 rfl ?_
      refine go_getr rfl ⟨_, rfl, rfl, by decide, by decide⟩ ?_
      refine go_ild_3_2 rfl ?_
      refine go_ald_3_0 rfl ?_
      refine go_getr rfl ⟨_, rfl, rfl, by decide, by decide⟩ ?_
      refine go_c rfl ?_
      refine go_ild_3_1 rfl ?_
      refine go_imul rfl ?_
      refine go_ild_3_2 rfl ?_
      refine go_iadd rfl ?_
      refine go_lald (j := 15 * z + k) rfl (⟨rfl, by decide, by decide, by decide⟩) (qx_mul15) (by omega) ?_
      refine go_last (j := k) rfl (⟨rfl, by decide, by decide, by decide⟩) (rfl) (by omega) ?_
      refine go_inc_3_2 rfl rfl ?_
      refine go_goto rfl ?_
      rw [nI_1, qb_wl_s (g := fun k => m.2.1 201 (15 * z + k)) (by omega) (show (qb_wl m 199 0 k (fun k => m.2.1 201 (15 * z + k))).2.1 201 (15 * z + k) = (fun k => m.2.1 201 (15 * z + k)) k from qb_wl_o (Or.inl (by decide)))]
      exact ih (k + 1) (by omega)
/-- the component's image: copies of all three -/
theorem sp_imB (d : Nat) (s : qb_M) (c : Nat × Nat) {k q L : Nat} (hq : k = 0 ∧ q = 156 ∨ k = 1 ∧ q = 173) (h1 : s.2.2 155 k = some q) (hL : s.1 78 4 = nI L) (hL2 : L ≤ 40) (hw : ∀ i, i < L → ∃ w, w < 23 ∧ s.2.2 79 i = some w) : ∃ t, qe (d + 2) 157 [.ref 64, .int (nI k)] (qb_hp (s), 149, c) = some (some (.int (1)), (qb_hp (t), 149, c)) ∧ qP_cp s t (q + 1) 67 ∧ (∀ j, j < 40 → qs_so t (q + 7) j = qs_so s 73 j) ∧ qQ_cp s t (q + 12) 78 L ∧ t.1 q 3 = 1 ∧ qF (fun x => q ≤ x ∧ x < q + 17) s t := by
  have hSh : qP_sh (q + 1) ∧ qS_sh (q + 7) ∧ qQ_sh (q + 12) ∧ q + 17 ≤ 190 ∧ 156 ≤ q := by
    rcases hq with ⟨-, rfl⟩ | ⟨-, rfl⟩
    · exact ⟨qP_157, qS_163, qQ_168, by decide, by decide⟩
    · exact ⟨qP_174, qS_180, qQ_185, by decide, by decide⟩
  obtain ⟨hS1, hS2, hS3, hq1, hq2⟩ := hSh
  obtain ⟨s1, a1, a2, a3⟩ := sp_copyP d s c hS1 qP_67 (by omega)
  obtain ⟨s2, b1, b2, b3⟩ := sp_copyS d s1 c hS2 qS_73 (by omega)
  have f2 : qF (fun x => q ≤ x ∧ x < q + 17) s s2 := (a3.mo (fun x hx => by omega)).tr (b3.F.mo (fun x hx => by omega))
  obtain ⟨s3, c1, c2, c3⟩ := sp_copyW d s2 c hS3 qQ_78 (by omega) ((f2.i (by omega)).trans hL) hL2 (fun i hi => by rw [f2.p (by omega)]; exact hw i hi)
  have f3 : qF (fun x => q ≤ x ∧ x < q + 17) s s3 := f2.tr (c3.mo (fun x hx => by omega))
  have g1 : qF (fun x => x = q ∨ q + 7 ≤ x ∧ x < q + 17) s1 (qb_ui s3 q 3 1) := ((b3.F.mo (fun x hx => by omega)).tr (c3.mo (fun x hx => by omega))).ui (Or.inl rfl)
  have g2 : qF (fun x => x = q ∨ q + 12 ≤ x ∧ x < q + 17) s2 (qb_ui s3 q 3 1) := (c3.mo (fun x hx => by omega)).ui (Or.inl rfl)
  refine ⟨qb_ui s3 q 3 1, ?_, ?_, ?_, ?_, qb_ui_1s, f3.ui (by omega)⟩
  · have hi2 : ∀ {u : qb_M}, qF (fun x => q ≤ x ∧ x < q + 17) s u → u.2.2 155 k = some q := fun h => (h.p (by omega)).trans h1
    rcases hq with ⟨rfl, rfl⟩ | ⟨rfl, rfl⟩
    all_goals
      refine (en_157 (d + 1) 64 _ _).trans ?_
      refine go_ild_2_1 rfl ?_
      refine go_iflt rfl (fun e => absurd e (by decide)) (fun e => ?_)
      refine go_ild_2_1 rfl ?_
      refine go_c rfl ?_
      refine go_iclt rfl (fun e => ?_) (fun e => absurd (by decide) e)
      have h1' := hi2 (u := s) qF.rf
      have h2' := hi2 (u := s1) (a3.mo (fun x hx => by omega))
      have h3' := hi2 f2
      have h4' := hi2 f3
    · refine go_ald_2_0 rfl ?_
      refine go_getr rfl ⟨_, rfl, rfl, by decide, by decide⟩ ?_
      refine go_ild_2_1 rfl ?_
      refine go_aald (j := 0) rfl (⟨rfl, by decide, by decide, by decide⟩) (rfl) (by decide) ?_
      rw [h1']
      refine go_getr rfl ⟨_, rfl, rfl, by decide, by decide⟩ ?_
      refine go_ald_2_0 rfl ?_
      refine go_getr rfl ⟨_, rfl, rfl, by decide, by decide⟩ ?_
      refine go_call2 rfl (a1) (Nat.le_of_ble_eq_true rfl) (qb_qv rfl (by decide) (by decide)) ?_
      refine go_ald_2_0 rfl ?_
      refine go_getr rfl ⟨_, rfl, rfl, by decide, by decide⟩ ?_
      refine go_ild_2_1 rfl ?_
      refine go_aald (j := 0) rfl (⟨rfl, by decide, by decide, by decide⟩) (rfl) (by decide) ?_
      rw [h2']
      refine go_getr rfl ⟨_, rfl, rfl, by decide, by decide⟩ ?_
      refine go_ald_2_0 rfl ?_
      refine go_getr rfl ⟨_, rfl, rfl, by decide, by decide⟩ ?_
      refine go_call2 rfl (b1) (Nat.le_of_ble_eq_true rfl) (qS_v hS2) ?_
      refine go_ald_2_0 rfl ?_
      refine go_getr rfl ⟨_, rfl, rfl, by decide, by decide⟩ ?_
      refine go_ild_2_1 rfl ?_
      refine go_aald (j := 0) rfl (⟨rfl, by decide, by decide, by decide⟩) (rfl) (by decide) ?_
      rw [h3']
      refine go_getr rfl ⟨_, rfl, rfl, by decide, by decide⟩ ?_
      refine go_ald_2_0 rfl ?_
      refine go_getr rfl ⟨_, rfl, rfl, by decide, by decide⟩ ?_
      refine go_call2 rfl (c1) (Nat.le_of_ble_eq_true rfl) (qb_qv rfl (by decide) (by decide)) ?_
      refine go_ald_2_0 rfl ?_
      refine go_getr rfl ⟨_, rfl, rfl, by decide, by decide⟩ ?_
      refine go_ild_2_1 rfl ?_
      refine go_aald (j := 0) rfl (⟨rfl, by decide, by decide, by decide⟩) (rfl) (by decide) ?_
      rw [h4']
      refine go_c rfl ?_
      refine go_puti rfl ⟨_, rfl, rfl, by decide, by decide⟩ rfl rfl ?_
      refine go_c rfl ?_
      exact fin_i rfl rfl rfl
    · refine go_ald_2_0 rfl ?_
      refine go_getr rfl ⟨_, rfl, rfl, by decide, by decide⟩ ?_
      refine go_ild_2_1 rfl ?_
      refine go_aald (j := 1) rfl (⟨rfl, by decide, by decide, by decide⟩) (rfl) (by decide) ?_
      rw [h1']
      refine go_getr rfl ⟨_, rfl, rfl, by decide, by decide⟩ ?_
      refine go_ald_2_0 rfl ?_
      refine go_getr rfl ⟨_, rfl, rfl, by decide, by decide⟩ ?_
      refine go_call2 rfl (a1) (Nat.le_of_ble_eq_true rfl) (qb_qv rfl (by decide) (by decide)) ?_
      refine go_ald_2_0 rfl ?_
      refine go_getr rfl ⟨_, rfl, rfl, by decide, by decide⟩ ?_
      refine go_ild_2_1 rfl ?_
      refine go_aald (j := 1) rfl (⟨rfl, by decide, by decide, by decide⟩) (rfl) (by decide) ?_
      rw [h2']
      refine go_getr rfl ⟨_, rfl, rfl, by decide, by decide⟩ ?_
      refine go_ald_2_0 rfl ?_
      refine go_getr rfl ⟨_, rfl, rfl, by decide, by decide⟩ ?_
      refine go_call2 rfl (b1) (Nat.le_of_ble_eq_true rfl) (qS_v hS2) ?_
      refine go_ald_2_0 rfl ?_
      refine go_getr rfl ⟨_, rfl, rfl, by decide, by decide⟩ ?_
      refine go_ild_2_1 rfl ?_
      refine go_aald (j := 1) rfl (⟨rfl, by decide, by decide, by decide⟩) (rfl) (by decide) ?_
      rw [h3']
      refine go_getr rfl ⟨_, rfl, rfl, by decide, by decide⟩ ?_
      refine go_ald_2_0 rfl ?_
      refine go_getr rfl ⟨_, rfl, rfl, by decide, by decide⟩ ?_
      refine go_call2 rfl (c1) (Nat.le_of_ble_eq_true rfl) (qb_qv rfl (by decide) (by decide)) ?_
      refine go_ald_2_0 rfl ?_
      refine go_getr rfl ⟨_, rfl, rfl, by decide, by decide⟩ ?_
      refine go_ild_2_1 rfl ?_
      refine go_aald (j := 1) rfl (⟨rfl, by decide, by decide, by decide⟩) (rfl) (by decide) ?_
      rw [h4']
      refine go_c rfl ?_
      refine go_puti rfl ⟨_, rfl, rfl, by decide, by decide⟩ rfl rfl ?_
      refine go_c rfl ?_
      exact fin_i rfl rfl rfl
  · obtain ⟨p1, p2, p3⟩ := a2
    refine ⟨fun k hk => ?_, fun k hk => ?_, fun k h1 h2 => ?_⟩
    · rw [g1.i (by omega), g1.i (by omega), g1.l (by omega)]; exact p1 k hk
    · rw [g1.l (by omega), g1.i (by omega)]; exact p2 k hk
    · rw [g1.i (by omega)]; exact p3 k h1 h2
  · intro j hj
    rw [qs_so_F g2 (fun k hk => by omega), b2 j hj, qs_so_F a3 (fun k hk => by omega)]
  · obtain ⟨p1, p2, p3⟩ := c2
    refine ⟨?_, ?_, fun i hi => ?_⟩
    · rw [qb_ui_1n (Or.inl (by omega)), p1, f2.i (by omega)]
    · rw [qb_ui_1n (Or.inl (by omega)), p2, f2.i (by omega)]
    · obtain ⟨r1, r2, r3⟩ := p3 i hi
      refine ⟨?_, ?_, ?_⟩
      · exact r1.trans (f2.p (by omega))
      · rw [qb_ui_1n (Or.inl (by omega)), r2, f2.i (by omega)]
      · rw [qb_ui_1n (Or.inl (by omega)), r3, f2.i (by omega)]
theorem qZi.k {s : qb_M} {k q : Nat} (h : qZi s k q) : s.2.2 155 k = some q := h.1
theorem qT_image (d : Nat) (x : Int32) : qT (d + 20) 157 291 [.int x] := fun s c hZ => by
  obtain ⟨hx0, nw, nm, ns, V, F0, lo, hi, se, h1, h2, h3, h4⟩ := id hZ
  obtain ⟨y1, y2, y3, y4, y5, y6⟩ := hx0
  by_cases hx : 0 ≤ x ∧ x < nI 2
  · obtain ⟨k, hk, rfl⟩ := qx_w (by omega) hx
    obtain ⟨q, hq⟩ : ∃ q, k = 0 ∧ q = 156 ∨ k = 1 ∧ q = 173 := by
      rcases (show k = 0 ∨ k = 1 by omega) with e | e
      · exact ⟨156, Or.inl ⟨e, rfl⟩⟩
      · exact ⟨173, Or.inr ⟨e, rfl⟩⟩
    have h155 : s.2.2 155 k = some q := by
      rcases hq with ⟨rfl, rfl⟩ | ⟨rfl, rfl⟩
      · exact y2.1
      · exact y3.1
    obtain ⟨L, hL, hL2⟩ := h3.L
    obtain ⟨t, t1, t2, t3, t4, t5, t6⟩ := sp_imB (d + 18) s c hq h155 hL hL2 (h3.w hL hL2)
    obtain ⟨m0, hm0⟩ : ∃ m0, m0 = qb_ui t 192 0 0 := ⟨_, rfl⟩
    obtain ⟨m1, hm1⟩ : ∃ m1, m1 = qb_wr m0 196 (312 * k) 312 (fun k => m0.1 194 k) := ⟨_, rfl⟩
    obtain ⟨m2, hm2⟩ : ∃ m2, m2 = qb_wl m1 201 (15 * k) 15 (fun k => m1.2.1 199 k) := ⟨_, rfl⟩
    have f0 : qG (fun x j => x = 192 ∧ j = 0) t m0 := by rw [hm0]; exact qG.rf.ui ⟨rfl, rfl⟩
    have f1 : qG (fun x j => x = 192 ∧ j = 0 ∨ x = 196 ∧ 312 * k ≤ j ∧ j < 312 * k + 312) t m1 := by rw [hm1]; exact (f0.mo (fun x j h => by omega)).wr (fun j _ _ => by omega)
    have f2 : qG (fun x j => x = 192 ∧ j = 0 ∨ x = 196 ∧ 312 * k ≤ j ∧ j < 312 * k + 312 ∨ x = 201 ∧ 15 * k ≤ j ∧ j < 15 * k + 15) t m2 := by rw [hm2]; exact (f1.mo (fun x j h => by omega)).wl (fun j _ _ => by omega)
    have f3 : qG (fun x j => x = 192 ∧ j = 0 ∨ x = 196 ∧ 312 * k ≤ j ∧ j < 312 * k + 312 ∨ x = 201 ∧ 15 * k ≤ j ∧ j < 15 * k + 15 ∨ x = 202 ∧ j = k) t (qb_ui m2 202 k 1) := (f2.mo (fun x j h => by omega)).ui (by omega)
    have fs : qG (fun x j => (q ≤ x ∧ x < q + 17) ∨ x = 192 ∧ j = 0 ∨ x = 196 ∧ 312 * k ≤ j ∧ j < 312 * k + 312 ∨ x = 201 ∧ 15 * k ≤ j ∧ j < 15 * k + 15 ∨ x = 202 ∧ j = k) s (qb_ui m2 202 k 1) := (t6.G.mo (fun x j h => Or.inl h)).tr (f3.mo (fun x j h => Or.inr h))
    have v1 : ∀ j, j < 312 → (qb_ui m2 202 k 1).1 196 (312 * k + j) = s.1 194 j := fun j hj => by
      rw [qb_ui_1n (Or.inl (by decide)), hm2]
      show m1.1 196 (312 * k + j) = _
      rw [hm1, qb_wr_in hj, f0.i (by omega), t6.i (by omega)]
    have v2 : ∀ j, j < 15 → (qb_ui m2 202 k 1).2.1 201 (15 * k + j) = s.2.1 199 j := fun j hj => by
      show m2.2.1 201 (15 * k + j) = _
      rw [hm2, qb_wl_in hj, f1.l (by omega), t6.l (by omega)]
    refine ⟨1, t, qb_ui m2 202 k 1, t1, ?_, ?_⟩
    · refine (en_291 (d + 19) 192 (nI k) _).trans ?_
      refine go_ald_3_0 rfl ?_
      refine go_c rfl ?_
      refine go_puti rfl ⟨_, rfl, rfl, by decide, by decide⟩ rfl rfl ?_
      refine go_ild_3_1 rfl ?_
      refine go_c rfl ?_
      refine go_c rfl ?_
      refine go_call3 rfl (sp_isIn (d + 18) _ _ _ _) (Nat.le_of_ble_eq_true rfl) rfl ?_
      rw [← hm0, qB_t (show (0 : Int32) ≤ nI k ∧ nI k ≤ 1 from ⟨hx.1, nI_le (a := k) (b := 1) (by omega) (by decide)⟩)]
      refine go_ifne rfl (fun e => ?_) (fun e => ?_)
      · exact absurd e (by decide)
      · refine go_c rfl ?_
        refine go_ist_3_2 rfl rfl ?_
        have h9 := sp_imM1 (d + 19) m0 c hk (some (some (.int (1)), (qb_hp (qb_ui m2 202 k 1), 149, c))) (by
          rw [← hm1]
          refine go_c rfl ?_
          refine go_ist_3_2 rfl rfl ?_
          have h8 := sp_imM2 (d + 19) m1 c hk (some (some (.int (1)), (qb_hp (qb_ui m2 202 k 1), 149, c))) (by
            rw [← hm2]
            refine go_ald_3_0 rfl ?_
            refine go_getr rfl ⟨_, rfl, rfl, by decide, by decide⟩ ?_
            refine go_ild_3_1 rfl ?_
            refine go_c rfl ?_
            refine go_zast (j := k) rfl (⟨rfl, by decide, by decide, by decide⟩) (rfl) (by omega) rfl ?_
            refine go_c rfl ?_
            exact fin_i rfl rfl rfl) 15 0 (by omega)
          rw [qb_wl_0] at h8
          exact h8) 312 0 (by omega)
        rw [qb_wr_0] at h9
        exact h9
    · have img : qZi (qb_ui m2 202 k 1) k q := by
        refine ⟨(fs.p (by omega)).trans h155, Or.inr ⟨(f3.i (by omega)).trans t5, qb_ui_1s, nw, nm, ns, V, F0, lo, hi, se, ?_, ?_, ?_⟩⟩
        · refine h1.cp (p' := q + 1) (A' := 196) (o' := 312 * k) (B' := 201) (b' := 15 * k) ?_ (fun j hj => by rw [v1 j (by omega), Nat.zero_add]) (fun j hj => by rw [v2 j hj, Nat.zero_add])
          obtain ⟨p1, p2, p3⟩ := t2
          refine ⟨fun j hj => ?_, fun j hj => ?_, fun j h1 h2 => ?_⟩
          · rw [f3.i (by omega), f3.i (by omega), f3.l (by omega)]; exact p1 j hj
          · rw [f3.l (by omega), f3.i (by omega)]; exact p2 j hj
          · rw [f3.i (by omega)]; exact p3 j h1 h2
        · refine h2.ex (fun j hj => ?_) (fun j hj => ?_)
          · rw [qs_so_G f3 (fun x j hx => by omega)]; exact t3 j hj
          · rw [Nat.add_assoc]; exact v1 (30 + j) (by omega)
        · refine h3.cp (q' := q + 12) (A' := 196) (o' := 312 * k) hL hL2 ?_ (fun j h1 h2 => by rw [v1 j (by omega), Nat.zero_add])
          obtain ⟨p1, p2, p3⟩ := t4
          refine ⟨(f3.i (by omega)).trans p1, (f3.i (by omega)).trans p2, fun i hi => ?_⟩
          rw [f3.p (by omega), f3.i (by omega), f3.i (by omega)]
          exact p3 i hi
      have oth : ∀ k' q', k' < 2 → (q' = 156 ∨ q' = 173) → q' ≠ q → k' ≠ k → qZi s k' q' → qZi (qb_ui m2 202 k 1) k' q' := fun k' q' hk' hq' hqq hkk h => by
        obtain ⟨g0, g1⟩ := h
        refine ⟨(fs.p (by omega)).trans g0, ?_⟩
        rw [fs.i (x := q') (k := 3) (by omega), fs.i (x := 202) (k := k') (by omega)]
        rcases g1 with g1 | ⟨g1, g2, nw, nm, ns, V, F0, lo, hi, se, e1, e2, e3⟩
        · exact Or.inl g1
        · refine Or.inr ⟨g1, g2, nw, nm, ns, V, F0, lo, hi, se, e1.mv fs (fun x j hx => by omega) (fun j _ _ => by omega) (fun j _ _ => by omega), e2.ex (fun j hj => ?_) (fun j hj => fs.i (by omega)), e3.mv fs (fun x j hx => by omega) (fun j _ _ => by omega)⟩
          rw [qs_so_G fs (fun x j hx => by omega)]
      have hi01 : qZi (qb_ui m2 202 k 1) 0 156 ∧ qZi (qb_ui m2 202 k 1) 1 173 := by
        rcases hq with ⟨rfl, rfl⟩ | ⟨rfl, rfl⟩
        · exact ⟨img, oth 1 173 (by decide) (Or.inr rfl) (by decide) (by decide) y3⟩
        · exact ⟨oth 0 156 (by decide) (Or.inl rfl) (by decide) (by decide) y2, img⟩
      refine ⟨⟨y1.mv fs (fun x j hx => by omega), hi01.1, hi01.2, y4.mv fs (fun x j hx => by omega), y5.mv fs (fun x j hx => by omega), y6.mv fs (fun x j hx => by omega)⟩, nw, nm, ns, V, F0, lo, hi, se, h1.mv fs (fun x j hx => by omega) (fun j _ _ => by omega) (fun j _ _ => by omega), ?_, h3.mv fs (fun x j hx => by omega) (fun j _ _ => by omega), h4.mv fs (fun x j hx => by omega)⟩
      rw [qs_so_G fs (fun x j hx => by omega), qm_so_G fs (fun j hj => by omega)]
      exact h2
  · refine ⟨0, s, qb_ui s 192 0 0, ?_, ?_, hZ.thr 0⟩
    · refine (en_157 (d + 19) 64 x _).trans ?_
      refine go_ild_2_1 rfl ?_
      refine go_iflt rfl (fun e => ?_) (fun e => ?_)
      · refine go_c rfl ?_
        exact fin_i rfl rfl rfl
      · refine go_ild_2_1 rfl ?_
        refine go_c rfl ?_
        refine go_iclt rfl (fun e2 => ?_) (fun e2 => ?_)
        · exact absurd ⟨Int32.not_lt.mp e, e2⟩ hx
        · refine go_c rfl ?_
          exact fin_i rfl rfl rfl
    · refine (en_291 (d + 19) 192 x _).trans ?_
      refine go_ald_3_0 rfl ?_
      refine go_c rfl ?_
      refine go_puti rfl ⟨_, rfl, rfl, by decide, by decide⟩ rfl rfl ?_
      refine go_ild_3_1 rfl ?_
      refine go_c rfl ?_
      refine go_c rfl ?_
      refine go_call3 rfl (sp_isIn (d + 18) _ _ _ _) (Nat.le_of_ble_eq_true rfl) rfl ?_
      rw [qB_f (fun z => by
        obtain ⟨j, j1, j2, rfl⟩ := qx_in1 (a := 0) (b := 1) (by decide) z.1 z.2 (by decide)
        exact hx ⟨z.1, nI_lt (by omega) (by decide)⟩)]
      refine go_ifne rfl (fun e => ?_) (fun e => ?_)
      · refine go_c rfl ?_
        exact fin_i rfl rfl rfl
      · exact absurd rfl e
/-- the component takes an image back -/
theorem sp_reB (d : Nat) (s : qb_M) (c : Nat × Nat) {k q L : Nat} (hq : k = 0 ∧ q = 156 ∨ k = 1 ∧ q = 173) (h1 : s.2.2 155 k = some q) (h2 : s.1 q 3 = 1) (hL : s.1 (q + 12) 4 = nI L) (hL2 : L ≤ 40) (hw : ∀ i, i < L → ∃ w, w < 23 ∧ s.2.2 (q + 12 + 1) i = some w) : ∃ t, qe (d + 2) 158 [.ref 64, .int (nI k)] (qb_hp (s), 149, c) = some (some (.int (1)), (qb_hp (t), 149, c)) ∧ qP_cp s t 67 (q + 1) ∧ (∀ j, j < 40 → qs_so t 73 j = qs_so s (q + 7) j) ∧ qQ_cp s t 78 (q + 12) L ∧ t.1 83 2 = 0 ∧ qG (fun x j => 67 ≤ x ∧ x < 83 ∨ x = 83 ∧ j = 2) s t := by
  have hSh : qP_sh (q + 1) ∧ qS_sh (q + 7) ∧ qQ_sh (q + 12) ∧ q + 17 ≤ 190 ∧ 156 ≤ q := by
    rcases hq with ⟨-, rfl⟩ | ⟨-, rfl⟩
    · exact ⟨qP_157, qS_163, qQ_168, by decide, by decide⟩
    · exact ⟨qP_174, qS_180, qQ_185, by decide, by decide⟩
  obtain ⟨hS1, hS2, hS3, hq1, hq2⟩ := hSh
  obtain ⟨s1, a1, a2, a3⟩ := sp_copyP d s c qP_67 hS1 (by omega)
  obtain ⟨s2, b1, b2, b3⟩ := sp_copyS d s1 c qS_73 hS2 (by omega)
  have f2 : qF (fun x => 67 ≤ x ∧ x < 83) s s2 := (a3.mo (fun x hx => by omega)).tr (b3.F.mo (fun x hx => by omega))
  obtain ⟨s3, c1, c2, c3⟩ := sp_copyW d s2 c qQ_78 hS3 (by omega) ((f2.i (by omega)).trans hL) hL2 (fun i hi => by rw [f2.p (by omega)]; exact hw i hi)
  have f3 : qF (fun x => 67 ≤ x ∧ x < 83) s s3 := f2.tr (c3.mo (fun x hx => by omega))
  have g1 : qF (fun x => 73 ≤ x ∧ x < 84) s1 (qb_ui s3 83 2 0) := ((b3.F.mo (fun x hx => by omega)).tr (c3.mo (fun x hx => by omega))).ui (by omega)
  have g2 : qF (fun x => 78 ≤ x ∧ x < 84) s2 (qb_ui s3 83 2 0) := (c3.mo (fun x hx => by omega)).ui (by omega)
  refine ⟨qb_ui s3 83 2 0, ?_, ?_, ?_, ?_, qb_ui_1s, (f3.G.mo (fun x j h => by omega)).ui (by omega)⟩
  · have hi2 : ∀ {u : qb_M}, qF (fun x => 67 ≤ x ∧ x < 83) s u → u.2.2 155 k = some q := fun h => (h.p (by omega)).trans h1
    rcases hq with ⟨rfl, rfl⟩ | ⟨rfl, rfl⟩
    all_goals
      refine (en_158 (d + 1) 64 _ _).trans ?_
      refine go_ild_2_1 rfl ?_
      refine go_iflt rfl (fun e => absurd e (by decide)) (fun e => ?_)
      refine go_ild_2_1 rfl ?_
      refine go_c rfl ?_
      refine go_icge rfl (fun e => absurd e (by decide)) (fun e => ?_)
      have h1' := hi2 (u := s) qF.rf
      have h2' := hi2 (u := s1) (a3.mo (fun x hx => by omega))
      have h3' := hi2 f2
    · refine go_ald_2_0 rfl ?_
      refine go_getr rfl ⟨_, rfl, rfl, by decide, by decide⟩ ?_
      refine go_ild_2_1 rfl ?_
      refine go_aald (j := 0) rfl (⟨rfl, by decide, by decide, by decide⟩) (rfl) (by decide) ?_
      rw [h1']
      refine go_geti rfl ⟨_, rfl, rfl, by decide, by decide⟩ ?_
      rw [h2]
      refine go_ifne rfl (fun e => absurd e (by decide)) (fun e => ?_)
      refine go_ald_2_0 rfl ?_
      refine go_getr rfl ⟨_, rfl, rfl, by decide, by decide⟩ ?_
      refine go_ald_2_0 rfl ?_
      refine go_getr rfl ⟨_, rfl, rfl, by decide, by decide⟩ ?_
      refine go_ild_2_1 rfl ?_
      refine go_aald (j := 0) rfl (⟨rfl, by decide, by decide, by decide⟩) (rfl) (by decide) ?_
      rw [h1']
      refine go_getr rfl ⟨_, rfl, rfl, by decide, by decide⟩ ?_
      refine go_call2 rfl (a1) (Nat.le_of_ble_eq_true rfl) (qb_qv rfl (by decide) (by decide)) ?_
      refine go_ald_2_0 rfl ?_
      refine go_getr rfl ⟨_, rfl, rfl, by decide, by decide⟩ ?_
      refine go_ald_2_0 rfl ?_
      refine go_getr rfl ⟨_, rfl, rfl, by decide, by decide⟩ ?_
      refine go_ild_2_1 rfl ?_
      refine go_aald (j := 0) rfl (⟨rfl, by decide, by decide, by decide⟩) (rfl) (by decide) ?_
      rw [h2']
      refine go_getr rfl ⟨_, rfl, rfl, by decide, by decide⟩ ?_
      refine go_call2 rfl (b1) (Nat.le_of_ble_eq_true rfl) (qS_v qS_73) ?_
      refine go_ald_2_0 rfl ?_
      refine go_getr rfl ⟨_, rfl, rfl, by decide, by decide⟩ ?_
      refine go_ald_2_0 rfl ?_
      refine go_getr rfl ⟨_, rfl, rfl, by decide, by decide⟩ ?_
      refine go_ild_2_1 rfl ?_
      refine go_aald (j := 0) rfl (⟨rfl, by decide, by decide, by decide⟩) (rfl) (by decide) ?_
      rw [h3']
      refine go_getr rfl ⟨_, rfl, rfl, by decide, by decide⟩ ?_
      refine go_call2 rfl (c1) (Nat.le_of_ble_eq_true rfl) (qb_qv rfl (by decide) (by decide)) ?_
      refine go_ald_2_0 rfl ?_
      refine go_getr rfl ⟨_, rfl, rfl, by decide, by decide⟩ ?_
      refine go_c rfl ?_
      refine go_puti rfl ⟨_, rfl, rfl, by decide, by decide⟩ rfl rfl ?_
      refine go_c rfl ?_
      exact fin_i rfl rfl rfl
    · refine go_ald_2_0 rfl ?_
      refine go_getr rfl ⟨_, rfl, rfl, by decide, by decide⟩ ?_
      refine go_ild_2_1 rfl ?_
      refine go_aald (j := 1) rfl (⟨rfl, by decide, by decide, by decide⟩) (rfl) (by decide) ?_
      rw [h1']
      refine go_geti rfl ⟨_, rfl, rfl, by decide, by decide⟩ ?_
      rw [h2]
      refine go_ifne rfl (fun e => absurd e (by decide)) (fun e => ?_)
      refine go_ald_2_0 rfl ?_
      refine go_getr rfl ⟨_, rfl, rfl, by decide, by decide⟩ ?_
      refine go_ald_2_0 rfl ?_
      refine go_getr rfl ⟨_, rfl, rfl, by decide, by decide⟩ ?_
      refine go_ild_2_1 rfl ?_
      refine go_aald (j := 1) rfl (⟨rfl, by decide, by decide, by decide⟩) (rfl) (by decide) ?_
      rw [h1']
      refine go_getr rfl ⟨_, rfl, rfl, by decide, by decide⟩ ?_
      refine go_call2 rfl (a1) (Nat.le_of_ble_eq_true rfl) (qb_qv rfl (by decide) (by decide)) ?_
      refine go_ald_2_0 rfl ?_
      refine go_getr rfl ⟨_, rfl, rfl, by decide, by decide⟩ ?_
      refine go_ald_2_0 rfl ?_
      refine go_getr rfl ⟨_, rfl, rfl, by decide, by decide⟩ ?_
      refine go_ild_2_1 rfl ?_
      refine go_aald (j := 1) rfl (⟨rfl, by decide, by decide, by decide⟩) (rfl) (by decide) ?_
      rw [h2']
      refine go_getr rfl ⟨_, rfl, rfl, by decide, by decide⟩ ?_
      refine go_call2 rfl (b1) (Nat.le_of_ble_eq_true rfl) (qS_v qS_73) ?_
      refine go_ald_2_0 rfl ?_
      refine go_getr rfl ⟨_, rfl, rfl, by decide, by decide⟩ ?_
      refine go_ald_2_0 rfl ?_
      refine go_getr rfl ⟨_, rfl, rfl, by decide, by decide⟩ ?_
      refine go_ild_2_1 rfl ?_
      refine go_aald (j := 1) rfl (⟨rfl, by decide, by decide, by decide⟩) (rfl) (by decide) ?_
      rw [h3']
      refine go_getr rfl ⟨_, rfl, rfl, by decide, by decide⟩ ?_
      refine go_call2 rfl (c1) (Nat.le_of_ble_eq_true rfl) (qb_qv rfl (by decide) (by decide)) ?_
      refine go_ald_2_0 rfl ?_
      refine go_getr rfl ⟨_, rfl, rfl, by decide, by decide⟩ ?_
      refine go_c rfl ?_
      refine go_puti rfl ⟨_, rfl, rfl, by decide, by decide⟩ rfl rfl ?_
      refine go_c rfl ?_
      exact fin_i rfl rfl rfl
  · obtain ⟨p1, p2, p3⟩ := a2
    refine ⟨fun k hk => ?_, fun k hk => ?_, fun k h1 h2 => ?_⟩
    · rw [g1.i (by omega), g1.i (by omega), g1.l (by omega)]; exact p1 k hk
    · rw [g1.l (by omega), g1.i (by omega)]; exact p2 k hk
    · rw [g1.i (by omega)]; exact p3 k h1 h2
  · intro j hj
    rw [qs_so_F g2 (fun k hk => by omega), b2 j hj, qs_so_F a3 (fun k hk => by omega)]
  · obtain ⟨p1, p2, p3⟩ := c2
    refine ⟨?_, ?_, fun i hi => ?_⟩
    · rw [qb_ui_1n (Or.inl (by omega)), p1, f2.i (by omega)]
    · rw [qb_ui_1n (Or.inl (by omega)), p2, f2.i (by omega)]
    · obtain ⟨r1, r2, r3⟩ := p3 i hi
      refine ⟨?_, ?_, ?_⟩
      · exact r1.trans (f2.p (by omega))
      · rw [qb_ui_1n (Or.inl (by omega)), r2, f2.i (by omega)]
      · rw [qb_ui_1n (Or.inl (by omega)), r3, f2.i (by omega)]
theorem qT_restore (d : Nat) (x : Int32) : qT (d + 20) 158 292 [.int x] := fun s c hZ => by
  obtain ⟨hx0, nw, nm, ns, V, F0, lo, hi, se, h1, h2, h3, h4⟩ := id hZ
  obtain ⟨y1, y2, y3, y4, y5, y6⟩ := id hx0
  by_cases hx : 0 ≤ x ∧ x < nI 2
  · obtain ⟨k, hk, rfl⟩ := qx_w (by omega) hx
    obtain ⟨q, hq⟩ : ∃ q, k = 0 ∧ q = 156 ∨ k = 1 ∧ q = 173 := by
      rcases (show k = 0 ∨ k = 1 by omega) with e | e
      · exact ⟨156, Or.inl ⟨e, rfl⟩⟩
      · exact ⟨173, Or.inr ⟨e, rfl⟩⟩
    have hy : qZi s k q := by
      rcases hq with ⟨rfl, rfl⟩ | ⟨rfl, rfl⟩
      · exact y2
      · exact y3
    obtain ⟨h155, hy⟩ := hy
    have hin : (0 : Int32) ≤ nI k ∧ nI k ≤ 1 := ⟨hx.1, nI_le (a := k) (b := 1) (by omega) (by decide)⟩
    rcases hy with ⟨g1, g2⟩ | ⟨g1, g2, nw', nm', ns', V', F0', lo', hi', se', e1, e2, e3⟩
    · refine ⟨0, s, qb_ui s 192 0 0, ?_, ?_, hZ.thr 0⟩
      · rcases hq with ⟨rfl, rfl⟩ | ⟨rfl, rfl⟩
        all_goals
          refine (en_158 (d + 19) 64 _ _).trans ?_
          refine go_ild_2_1 rfl ?_
          refine go_iflt rfl (fun e => absurd e (by decide)) (fun e => ?_)
          refine go_ild_2_1 rfl ?_
          refine go_c rfl ?_
          refine go_icge rfl (fun e => absurd e (by decide)) (fun e => ?_)
        · refine go_ald_2_0 rfl ?_
          refine go_getr rfl ⟨_, rfl, rfl, by decide, by decide⟩ ?_
          refine go_ild_2_1 rfl ?_
          refine go_aald (j := 0) rfl (⟨rfl, by decide, by decide, by decide⟩) (rfl) (by decide) ?_
          rw [h155]
          refine go_geti rfl ⟨_, rfl, rfl, by decide, by decide⟩ ?_
          rw [g1]
          refine go_ifne rfl (fun e => ?_) (fun e => absurd rfl e)
          refine go_c rfl ?_
          exact fin_i rfl rfl rfl
        · refine go_ald_2_0 rfl ?_
          refine go_getr rfl ⟨_, rfl, rfl, by decide, by decide⟩ ?_
          refine go_ild_2_1 rfl ?_
          refine go_aald (j := 1) rfl (⟨rfl, by decide, by decide, by decide⟩) (rfl) (by decide) ?_
          rw [h155]
          refine go_geti rfl ⟨_, rfl, rfl, by decide, by decide⟩ ?_
          rw [g1]
          refine go_ifne rfl (fun e => ?_) (fun e => absurd rfl e)
          refine go_c rfl ?_
          exact fin_i rfl rfl rfl
      · refine (en_292 (d + 19) 192 (nI k) _).trans ?_
        refine go_ald_3_0 rfl ?_
        refine go_c rfl ?_
        refine go_puti rfl ⟨_, rfl, rfl, by decide, by decide⟩ rfl rfl ?_
        refine go_ild_3_1 rfl ?_
        refine go_c rfl ?_
        refine go_c rfl ?_
        refine go_call3 rfl (sp_isIn (d + 18) _ _ _ _) (Nat.le_of_ble_eq_true rfl) rfl ?_
        rw [qB_t hin]
        refine go_ifeq rfl (fun e => ?_) (fun e => ?_)
        · exact absurd e (by decide)
        · refine go_ald_3_0 rfl ?_
          refine go_getr rfl ⟨_, rfl, rfl, by decide, by decide⟩ ?_
          refine go_ild_3_1 rfl ?_
          refine go_zald (j := k) rfl (⟨rfl, by decide, by decide, by decide⟩) (rfl) (by omega) ?_
          rw [qb_t0 (by omega), g2]
          refine go_ifne rfl (fun e2 => ?_) (fun e2 => ?_)
          · refine go_c rfl ?_
            exact fin_i rfl rfl rfl
          · exact absurd rfl e2
    · obtain ⟨L, hL, hL2⟩ := e3.L
      obtain ⟨t, t1, t2, t3, t4, t5, t6⟩ := sp_reB (d + 18) s c hq h155 g1 hL hL2 (e3.w hL hL2)
      have hq3 : q + 17 ≤ 190 ∧ 156 ≤ q := by omega
      obtain ⟨m0, hm0⟩ : ∃ m0, m0 = qb_ui t 192 0 0 := ⟨_, rfl⟩
      obtain ⟨m1, hm1⟩ : ∃ m1, m1 = qb_wr m0 194 0 312 (fun j => m0.1 196 (312 * k + j)) := ⟨_, rfl⟩
      obtain ⟨m2, hm2⟩ : ∃ m2, m2 = qb_wl m1 199 0 15 (fun j => m1.2.1 201 (15 * k + j)) := ⟨_, rfl⟩
      have f0 : qG (fun x j => x = 192 ∧ j = 0) t m0 := by rw [hm0]; exact qG.rf.ui ⟨rfl, rfl⟩
      have f1 : qG (fun x j => x = 192 ∧ j = 0 ∨ x = 194) t m1 := by rw [hm1]; exact (f0.mo (fun x j h => by omega)).wr (fun j _ _ => by omega)
      have f2 : qG (fun x j => x = 192 ∧ j = 0 ∨ x = 194 ∨ x = 199) t m2 := by rw [hm2]; exact (f1.mo (fun x j h => by omega)).wl (fun j _ _ => by omega)
      have f3 : qG (fun x j => x = 192 ∧ (j = 0 ∨ j = 24) ∨ x = 194 ∨ x = 199) t (qb_ui m2 192 24 0) := (f2.mo (fun x j h => by omega)).ui (by omega)
      have fs : qG (fun x j => (67 ≤ x ∧ x < 83 ∨ x = 83 ∧ j = 2) ∨ x = 192 ∧ (j = 0 ∨ j = 24) ∨ x = 194 ∨ x = 199) s (qb_ui m2 192 24 0) := (t6.mo (fun x j h => Or.inl h)).tr (f3.mo (fun x j h => Or.inr h))
      have v1 : ∀ j, j < 312 → (qb_ui m2 192 24 0).1 194 j = s.1 196 (312 * k + j) := fun j hj => by
        rw [qb_ui_1n (Or.inl (by decide)), hm2]
        show m1.1 194 j = _
        rw [hm1, qb_wr_i0 hj, f0.i (by omega), t6.i (by omega)]
      have v2 : ∀ j, j < 15 → (qb_ui m2 192 24 0).2.1 199 j = s.2.1 201 (15 * k + j) := fun j hj => by
        show m2.2.1 199 j = _
        rw [hm2, qb_wl_i0 hj, f1.l (by omega), t6.l (by omega)]
      refine ⟨1, t, qb_ui m2 192 24 0, t1, ?_, ?_⟩
      · refine (en_292 (d + 19) 192 (nI k) _).trans ?_
        refine go_ald_3_0 rfl ?_
        refine go_c rfl ?_
        refine go_puti rfl ⟨_, rfl, rfl, by decide, by decide⟩ rfl rfl ?_
        refine go_ild_3_1 rfl ?_
        refine go_c rfl ?_
        refine go_c rfl ?_
        refine go_call3 rfl (sp_isIn (d + 18) _ _ _ _) (Nat.le_of_ble_eq_true rfl) rfl ?_
        rw [← hm0, qB_t hin]
        refine go_ifeq rfl (fun e => ?_) (fun e => ?_)
        · exact absurd e (by decide)
        · refine go_ald_3_0 rfl ?_
          refine go_getr rfl ⟨_, rfl, rfl, by decide, by decide⟩ ?_
          refine go_ild_3_1 rfl ?_
          refine go_zald (j := k) rfl (⟨rfl, by decide, by decide, by decide⟩) (rfl) (by omega) ?_
          rw [f0.i (by omega), t6.i (by omega), g2]
          refine go_ifne rfl (fun e2 => ?_) (fun e2 => ?_)
          · exact absurd e2 (by decide)
          · refine go_c rfl ?_
            refine go_ist_3_2 rfl rfl ?_
            have h9 := sp_reM1 (d + 19) m0 c hk (some (some (.int (1)), (qb_hp (qb_ui m2 192 24 0), 149, c))) (by
              rw [← hm1]
              refine go_c rfl ?_
              refine go_ist_3_2 rfl rfl ?_
              have h8 := sp_reM2 (d + 19) m1 c hk (some (some (.int (1)), (qb_hp (qb_ui m2 192 24 0), 149, c))) (by
                rw [← hm2]
                refine go_ald_3_0 rfl ?_
                refine go_c rfl ?_
                refine go_puti rfl ⟨_, rfl, rfl, by decide, by decide⟩ rfl rfl ?_
                refine go_c rfl ?_
                exact fin_i rfl rfl rfl) 15 0 (by omega)
              rw [qb_wl_0] at h8
              exact h8) 312 0 (by omega)
            rw [qb_wr_0] at h9
            exact h9
      · refine ⟨hx0.mv fs (fun x j hx => by unfold qZx_no at hx; omega), nw', nm', ns', V', F0', lo', hi', se', ?_, ?_, ?_, ?_⟩
        · refine e1.cp (p' := 67) (A' := 194) (o' := 0) (B' := 199) (b' := 0) ?_ (fun j hj => by rw [Nat.zero_add, v1 j (by omega)]) (fun j hj => by rw [Nat.zero_add, v2 j hj])
          obtain ⟨p1, p2, p3⟩ := t2
          refine ⟨fun j hj => ?_, fun j hj => ?_, fun j h1 h2 => ?_⟩
          · rw [f3.i (by omega), f3.i (by omega), f3.l (by omega)]; exact p1 j hj
          · rw [f3.l (by omega), f3.i (by omega)]; exact p2 j hj
          · rw [f3.i (by omega)]; exact p3 j h1 h2
        · refine e2.ex (fun j hj => ?_) (fun j hj => ?_)
          · rw [qs_so_G f3 (fun x j hx => by omega)]; exact t3 j hj
          · show (qb_ui m2 192 24 0).1 194 (30 + j) = _
            rw [v1 (30 + j) (by omega), Nat.add_assoc]
        · refine e3.cp (q' := 78) (A' := 194) (o' := 0) hL hL2 ?_ (fun j h1 h2 => by rw [Nat.zero_add, v1 j (by omega)])
          obtain ⟨p1, p2, p3⟩ := t4
          refine ⟨(f3.i (by omega)).trans p1, (f3.i (by omega)).trans p2, fun i hi => ?_⟩
          rw [f3.p (by omega), f3.i (by omega), f3.i (by omega)]
          exact p3 i hi
        · obtain ⟨hrg, xx, z, hxx, hz, r1, r2, r3, r5⟩ := h4
          exact ⟨fun i hi => (fs.p (by omega)).trans (hrg i hi), xx, 0, hxx, by omega, (fs.i (by omega)).trans r1, (f3.i (by omega)).trans t5, qb_ui_1s, fun j hj => absurd hj (by omega)⟩
  · refine ⟨0, s, qb_ui s 192 0 0, ?_, ?_, hZ.thr 0⟩
    · refine (en_158 (d + 19) 64 x _).trans ?_
      refine go_ild_2_1 rfl ?_
      refine go_iflt rfl (fun e => ?_) (fun e => ?_)
      · refine go_c rfl ?_
        exact fin_i rfl rfl rfl
      · refine go_ild_2_1 rfl ?_
        refine go_c rfl ?_
        refine go_icge rfl (fun e2 => ?_) (fun e2 => ?_)
        · refine go_c rfl ?_
          exact fin_i rfl rfl rfl
        · exact absurd ⟨Int32.not_lt.mp e, Int32.not_le.mp e2⟩ hx
    · refine (en_292 (d + 19) 192 x _).trans ?_
      refine go_ald_3_0 rfl ?_
      refine go_c rfl ?_
      refine go_puti rfl ⟨_, rfl, rfl, by decide, by decide⟩ rfl rfl ?_
      refine go_ild_3_1 rfl ?_
      refine go_c rfl ?_
      refine go_c rfl ?_
      refine go_call3 rfl (sp_isIn (d + 18) _ _ _ _) (Nat.le_of_ble_eq_true rfl) rfl ?_
      rw [qB_f (fun z => by
        obtain ⟨j, j1, j2, rfl⟩ := qx_in1 (a := 0) (b := 1) (by decide) z.1 z.2 (by decide)
        exact hx ⟨z.1, nI_lt (by omega) (by decide)⟩)]
      refine go_ifeq rfl (fun e => ?_) (fun e => ?_)
      · refine go_c rfl ?_
        exact fin_i rfl rfl rfl
      · exact absurd rfl e
