/-! questions of wires and switches -/
theorem qm_t0 {s : qb_M} {nw nm : Nat} {lo hi : Nat → Nat} (h : qm_pl s nw nm lo hi) : qm_pl (qb_ui s 192 0 0) nw nm lo hi := h.mv (qF.rf.ui (P := fun x => x = 192) rfl) (by decide)
theorem qm_s0 {s : qb_M} : qm_so (qb_ui s 192 0 0) = qm_so s := funext fun k => qb_t0 (Or.inl (by decide))
theorem qT_line (d : Nat) (x w : Int32) : qT (d + 20) 45 204 [.int x, .int w] := qT_ro fun s c hZ => by
  obtain ⟨hx0, nw, nm, ns, V, F0, lo, hi, se, h1, h2, h3, h4⟩ := id hZ
  obtain ⟨hR, H, X, J, Lf, Sh, hI⟩ := id h2
  have hw := h1.1
  have hS := qS_73
  by_cases hx : 0 ≤ x ∧ x < nI nw
  · obtain ⟨i, hi0, rfl⟩ := qx_w (by omega) hx
    have hon := hR.on (w := i) (by omega)
    have hM : ∀ R : Option (Option Value × qa_H), (qs_on (qm_so s) i = true → qa_lm (qe (d + 19)) (qa_cd qc_204) (23, [.ref 192, .int (nI i), .int w], [], (qb_hp (qb_ui s 192 0 0), 149, c)) = R) → (¬ qs_on (qm_so s) i = true → some (some (.int (-1)), (qb_hp (qb_ui s 192 0 0), 149, c)) = R) → qe (d + 20) 204 [.ref 192, .int (nI i), .int w] (qb_hp (s), 149, c) = R := fun R k1 k2 => by
      refine (en_204 (d + 19) 192 (nI i) w _).trans ?_
      refine go_ald_3_0 rfl ?_
      refine go_c rfl ?_
      refine go_puti rfl ⟨_, rfl, rfl, by decide, by decide⟩ rfl rfl ?_
      refine go_ald_3_0 rfl ?_
      refine go_ild_3_1 rfl ?_
      refine go_call2 rfl (sp_isWire (d + 17) (qb_ui s 192 0 0) c (nw := nw) ((qb_t0 (by omega)).trans h1.2.2.1.1) (by omega) (by omega) _) (Nat.le_of_ble_eq_true rfl) (qb_qv rfl (by decide) (by decide)) ?_
      rw [qB_t hx]
      refine go_ifeq rfl (fun e => ?_) (fun e => ?_)
      · exact absurd e (by decide)
      · refine go_ald_3_0 rfl ?_
        refine go_ild_3_1 rfl ?_
        refine go_call2 rfl (sp_isOn' (d + 18) _ c i (by omega)) (Nat.le_of_ble_eq_true rfl) (qb_qv rfl (by decide) (by decide)) ?_
        rw [qm_s0]
        refine go_ifne rfl (fun e2 => ?_) (fun e2 => ?_)
        · have := k2 (qB_0.mp e2)
          refine go_c rfl ?_
          exact fin_i rfl rfl this
        · exact k1 (Classical.byContradiction fun z => e2 (qB_f z))
    have hB : ∀ R : Option (Option Value × qa_H), (qs_on (qm_so s) i = true → qa_lm (qe (d + 19)) (qa_cd qc_45) (21, [.ref 64, .int (nI i), .int w], [], (qb_hp (s), 149, c)) = R) → (¬ qs_on (qm_so s) i = true → some (some (.int (-1)), (qb_hp (s), 149, c)) = R) → qe (d + 20) 45 [.ref 64, .int (nI i), .int w] (qb_hp (s), 149, c) = R := fun R k1 k2 => by
      refine (en_45 (d + 19) 64 (nI i) w _).trans ?_
      refine go_ald_3_0 rfl ?_
      refine go_ild_3_1 rfl ?_
      refine go_call2 rfl (sp_isWireB (d + 18) s c h1.2.1.1 _) (Nat.le_of_ble_eq_true rfl) (qb_qv rfl (by decide) (by decide)) ?_
      rw [qB_t hx]
      refine go_ifeq rfl (fun e => ?_) (fun e => ?_)
      · exact absurd e (by decide)
      · refine go_ald_3_0 rfl ?_
        refine go_getr rfl ⟨_, rfl, rfl, by decide, by decide⟩ ?_
        refine go_ild_3_1 rfl ?_
        refine go_call2 rfl (sp_isUp (d + 18) s c hS i (by omega)) (Nat.le_of_ble_eq_true rfl) (qS_v hS) ?_
        rw [hon]
        refine go_ifne rfl (fun e2 => ?_) (fun e2 => ?_)
        · have := k2 (qB_0.mp e2)
          refine go_c rfl ?_
          exact fin_i rfl rfl this
        · exact k1 (Classical.byContradiction fun z => e2 (qB_f z))
    by_cases ho : qs_on (qm_so s) i = true
    · have e0 : s.1 74 i = s.1 194 (36 + i) := (qs_so_o (s := s) (a := 73) (w := i) (by omega)).symm.trans ((hR.1 (6 + i) (by omega) (by omega)).trans (qm_so_r (by omega)).symm)
      have e1 : s.1 75 i = s.1 194 (44 + i) := (qs_so_l (s := s) (a := 73) (w := i) (by omega)).symm.trans ((hR.2 i (by omega) ho).1.trans (qm_so_r (by omega)).symm)
      have e2 : s.1 76 i = s.1 194 (52 + i) := (qs_so_s (s := s) (a := 73) (w := i) (by omega)).symm.trans ((hR.2 i (by omega) ho).2.trans (qm_so_r (by omega)).symm)
      by_cases q0 : w = 0
      · subst q0
        refine ⟨s.1 74 i, hB _ (fun _ => ?_) (fun z => absurd ho z), fun t ht => hM _ (fun _ => ?_) (fun z => absurd ho z)⟩
        · refine go_ild_3_2 rfl ?_
          refine go_sw2 (n := 48) rfl (by decide +kernel) ?_
          refine go_ald_3_0 rfl ?_
          refine go_getr rfl ⟨_, rfl, rfl, by decide, by decide⟩ ?_
          refine go_getr rfl (qS_f hS rfl) ?_
          refine go_ild_3_1 rfl ?_
          refine go_iald (j := i) rfl (hS.2.1.1) (rfl) (by omega) ?_
          exact fin_i rfl rfl rfl
        · subst ht
          refine go_ild_3_2 rfl ?_
          refine go_ifne rfl (fun e => ?_) (fun e => ?_)
          · refine go_ald_3_0 rfl ?_
            refine go_getr rfl ⟨_, rfl, rfl, by decide, by decide⟩ ?_
            refine go_c rfl ?_
            refine go_ild_3_1 rfl ?_
            refine go_iadd rfl ?_
            refine go_iald (j := 36 + i) rfl (⟨rfl, by decide, by decide, by decide⟩) (nI_add 36 i) (by omega) ?_
            refine go_goto rfl ?_
            exact fin_i rfl rfl (qR_i ((qb_t0 (by omega)).trans e0.symm))
          · exact absurd rfl e
      by_cases q1 : w = 1
      · subst q1
        refine ⟨s.1 75 i, hB _ (fun _ => ?_) (fun z => absurd ho z), fun t ht => hM _ (fun _ => ?_) (fun z => absurd ho z)⟩
        · refine go_ild_3_2 rfl ?_
          refine go_sw2 (n := 58) rfl (by decide +kernel) ?_
          refine go_ald_3_0 rfl ?_
          refine go_getr rfl ⟨_, rfl, rfl, by decide, by decide⟩ ?_
          refine go_getr rfl (qS_f hS rfl) ?_
          refine go_ild_3_1 rfl ?_
          refine go_iald (j := i) rfl (hS.2.1.2.1) (rfl) (by omega) ?_
          exact fin_i rfl rfl rfl
        · subst ht
          refine go_ild_3_2 rfl ?_
          refine go_ifne rfl (fun e => ?_) (fun e => ?_)
          · exact absurd e (by decide)
          · refine go_ild_3_2 rfl ?_
            refine go_c rfl ?_
            refine go_icne rfl (fun e => ?_) (fun e => ?_)
            · refine go_ald_3_0 rfl ?_
              refine go_getr rfl ⟨_, rfl, rfl, by decide, by decide⟩ ?_
              refine go_c rfl ?_
              refine go_ild_3_1 rfl ?_
              refine go_iadd rfl ?_
              refine go_iald (j := 44 + i) rfl (⟨rfl, by decide, by decide, by decide⟩) (nI_add 44 i) (by omega) ?_
              refine go_goto rfl ?_
              exact fin_i rfl rfl (qR_i ((qb_t0 (by omega)).trans e1.symm))
            · exact absurd rfl e
      by_cases q2 : w = 2
      · subst q2
        refine ⟨s.1 76 i, hB _ (fun _ => ?_) (fun z => absurd ho z), fun t ht => hM _ (fun _ => ?_) (fun z => absurd ho z)⟩
        · refine go_ild_3_2 rfl ?_
          refine go_sw2 (n := 68) rfl (by decide +kernel) ?_
          refine go_ald_3_0 rfl ?_
          refine go_getr rfl ⟨_, rfl, rfl, by decide, by decide⟩ ?_
          refine go_getr rfl (qS_f hS rfl) ?_
          refine go_ild_3_1 rfl ?_
          refine go_iald (j := i) rfl (hS.2.1.2.2.1) (rfl) (by omega) ?_
          exact fin_i rfl rfl rfl
        · subst ht
          refine go_ild_3_2 rfl ?_
          refine go_ifne rfl (fun e => ?_) (fun e => ?_)
          · exact absurd e (by decide)
          · refine go_ild_3_2 rfl ?_
            refine go_c rfl ?_
            refine go_icne rfl (fun e => ?_) (fun e => ?_)
            · exact absurd e (by decide)
            · refine go_ild_3_2 rfl ?_
              refine go_c rfl ?_
              refine go_icne rfl (fun e => ?_) (fun e => ?_)
              · refine go_ald_3_0 rfl ?_
                refine go_getr rfl ⟨_, rfl, rfl, by decide, by decide⟩ ?_
                refine go_c rfl ?_
                refine go_ild_3_1 rfl ?_
                refine go_iadd rfl ?_
                refine go_iald (j := 52 + i) rfl (⟨rfl, by decide, by decide, by decide⟩) (nI_add 52 i) (by omega) ?_
                refine go_goto rfl ?_
                exact fin_i rfl rfl (qR_i ((qb_t0 (by omega)).trans e2.symm))
              · exact absurd rfl e
      refine ⟨-1, hB _ (fun _ => ?_) (fun z => absurd ho z), fun t ht => hM _ (fun _ => ?_) (fun z => absurd ho z)⟩
      · refine go_ild_3_2 rfl ?_
        refine go_sw2 (n := 78) rfl (by simp [qa_sw, q0, q1, q2]) ?_
        refine go_c rfl ?_
        exact fin_i rfl rfl rfl
      · subst ht
        refine go_ild_3_2 rfl ?_
        refine go_ifne rfl (fun e => ?_) (fun e => ?_)
        · exact absurd e q0
        · refine go_ild_3_2 rfl ?_
          refine go_c rfl ?_
          refine go_icne rfl (fun e => ?_) (fun e => ?_)
          · exact absurd e q1
          · refine go_ild_3_2 rfl ?_
            refine go_c rfl ?_
            refine go_icne rfl (fun e => ?_) (fun e => ?_)
            · exact absurd e q2
            · refine go_c rfl ?_
              exact fin_i rfl rfl rfl
    · exact ⟨-1, hB _ (fun z => absurd z ho) (fun _ => rfl), fun t ht => hM _ (fun z => absurd z ho) (fun _ => by rw [ht])⟩
  · refine ⟨-1, ?_, ?_⟩
    · refine (en_45 (d + 19) 64 x w _).trans ?_
      refine go_ald_3_0 rfl ?_
      refine go_ild_3_1 rfl ?_
      refine go_call2 rfl (sp_isWireB (d + 18) s c h1.2.1.1 _) (Nat.le_of_ble_eq_true rfl) (qb_qv rfl (by decide) (by decide)) ?_
      rw [qB_f hx]
      refine go_ifeq rfl (fun e => ?_) (fun e => ?_)
      · refine go_c rfl ?_
        exact fin_i rfl rfl rfl
      · exact absurd rfl e
    · rintro t rfl
      refine (en_204 (d + 19) 192 x w _).trans ?_
      refine go_ald_3_0 rfl ?_
      refine go_c rfl ?_
      refine go_puti rfl ⟨_, rfl, rfl, by decide, by decide⟩ rfl rfl ?_
      refine go_ald_3_0 rfl ?_
      refine go_ild_3_1 rfl ?_
      refine go_call2 rfl (sp_isWire (d + 17) (qb_ui s 192 0 0) c (nw := nw) ((qb_t0 (by omega)).trans h1.2.2.1.1) (by omega) (by omega) _) (Nat.le_of_ble_eq_true rfl) (qb_qv rfl (by decide) (by decide)) ?_
      rw [qB_f hx]
      refine go_ifeq rfl (fun e => ?_) (fun e => ?_)
      · refine go_c rfl ?_
        exact fin_i rfl rfl rfl
      · exact absurd rfl e
theorem qz_X {s : qb_M} {nw nm : Nat} {lo hi : Nat → Nat} {H X J : Nat} {Lf Sh : Nat → Nat} (hR : qs_R (qs_so s 73) (qm_so s)) (hI : qs_in nw nm lo hi (qm_so s) H X J Lf Sh) (hm : nm ≤ 10) : s.1 73 5 = nI X ∧ s.1 73 6 = nI J ∧ X < 1024 ∧ J < 1024 := by
  obtain ⟨-, ⟨hX, hX2⟩, ⟨hJ, hJ2⟩, -⟩ := hI
  have h10 : 2 ^ nm ≤ 2 ^ 10 := Nat.pow_le_pow_right (by decide) hm
  exact ⟨(hR.1 1 (by omega) (by omega)).trans hX, (hR.1 2 (by omega) (by omega)).trans hJ, by omega, by omega⟩
theorem sp_outNow (d : Nat) (s : qb_M) (c : Nat × Nat) {nw nm : Nat} {lo hi : Nat → Nat} (hp : qm_pl s nw nm lo hi) (X i : Nat) (hS : s.1 194 31 = nI X) (hX : X < 1024) (hi0 : i < nw) : qe (d + 5) 207 [.ref 192, .int (nI i)] (qb_hp s, 149, c) = some (some (.int (nI (qm_wr lo hi X i nm))), (qb_hp s, 149, c)) := by
  refine (en_207 (d + 4) 192 (nI i) _).trans ?_
  refine go_ald_2_0 rfl ?_
  refine go_ild_2_1 rfl ?_
  refine go_ald_2_0 rfl ?_
  refine go_getr rfl ⟨_, rfl, rfl, by decide, by decide⟩ ?_
  refine go_c rfl ?_
  refine go_iald (j := 31) rfl ⟨rfl, by decide, by decide, by decide⟩ rfl (by decide) ?_
  rw [hS]
  refine go_call3 rfl (sp_outOf d s c hp X i hX hi0) (Nat.le_of_ble_eq_true rfl) (qb_qv rfl (by decide) (by decide)) ?_
  exact fin_i rfl rfl rfl
theorem qT_out (d : Nat) (x : Int32) : qT (d + 20) 48 206 [.int x] := qT_ro fun s c hZ => by
  obtain ⟨hx0, nw, nm, ns, V, F0, lo, hi, se, h1, h2, h3, h4⟩ := id hZ
  obtain ⟨hR, H, X, J, Lf, Sh, hI⟩ := id h2
  have hw := h1.1
  have hS := qS_73
  obtain ⟨x1, x2, x3, x4⟩ := qz_X hR hI hw.2.2.1
  by_cases hx : 0 ≤ x ∧ x < nI nw
  · obtain ⟨i, hi0, rfl⟩ := qx_w (by omega) hx
    refine ⟨nI (qm_wr lo hi X i nm), ?_, ?_⟩
    · refine (en_48 (d + 19) 64 (nI i) _).trans ?_
      refine go_ald_2_0 rfl ?_
      refine go_ild_2_1 rfl ?_
      refine go_call2 rfl (sp_isWireB (d + 18) s c h1.2.1.1 _) (Nat.le_of_ble_eq_true rfl) (qb_qv rfl (by decide) (by decide)) ?_
      rw [qB_t hx]
      refine go_ifeq rfl (fun e => ?_) (fun e => ?_)
      · exact absurd e (by decide)
      · refine go_ald_2_0 rfl ?_
        refine go_getr rfl ⟨_, rfl, rfl, by decide, by decide⟩ ?_
        refine go_ald_2_0 rfl ?_
        refine go_getr rfl ⟨_, rfl, rfl, by decide, by decide⟩ ?_
        refine go_geti rfl (qS_f hS rfl) ?_
        rw [x1]
        refine go_ild_2_1 rfl ?_
        refine go_call3 rfl (sp_endOf (d + 16) s c h1.c X i x3 hi0) (Nat.le_of_ble_eq_true rfl) (qb_qv rfl (by decide) (by decide)) ?_
        refine go_goto rfl ?_
        exact fin_i rfl rfl rfl
    · rintro t rfl
      refine (en_206 (d + 19) 192 (nI i) _).trans ?_
      refine go_ald_2_0 rfl ?_
      refine go_c rfl ?_
      refine go_puti rfl ⟨_, rfl, rfl, by decide, by decide⟩ rfl rfl ?_
      refine go_ald_2_0 rfl ?_
      refine go_ild_2_1 rfl ?_
      refine go_call2 rfl (sp_isWire (d + 17) (qb_ui s 192 0 0) c (nw := nw) ((qb_t0 (by omega)).trans h1.2.2.1.1) (by omega) (by omega) _) (Nat.le_of_ble_eq_true rfl) (qb_qv rfl (by decide) (by decide)) ?_
      rw [qB_t hx]
      refine go_ifeq rfl (fun e => ?_) (fun e => ?_)
      · exact absurd e (by decide)
      · refine go_ald_2_0 rfl ?_
        refine go_ild_2_1 rfl ?_
        refine go_call2 rfl (sp_outNow (d + 14) _ c (qm_t0 h1.m) X i ((qb_t0 (by omega)).trans hI.2.1.1) x3 hi0) (Nat.le_of_ble_eq_true rfl) (qb_qv rfl (by decide) (by decide)) ?_
        refine go_goto rfl ?_
        exact fin_i rfl rfl rfl
  · refine ⟨-1, ?_, ?_⟩
    · refine (en_48 (d + 19) 64 x _).trans ?_
      refine go_ald_2_0 rfl ?_
      refine go_ild_2_1 rfl ?_
      refine go_call2 rfl (sp_isWireB (d + 18) s c h1.2.1.1 _) (Nat.le_of_ble_eq_true rfl) (qb_qv rfl (by decide) (by decide)) ?_
      rw [qB_f hx]
      refine go_ifeq rfl (fun e => ?_) (fun e => ?_)
      · refine go_c rfl ?_
        exact fin_i rfl rfl rfl
      · exact absurd rfl e
    · rintro t rfl
      refine (en_206 (d + 19) 192 x _).trans ?_
      refine go_ald_2_0 rfl ?_
      refine go_c rfl ?_
      refine go_puti rfl ⟨_, rfl, rfl, by decide, by decide⟩ rfl rfl ?_
      refine go_ald_2_0 rfl ?_
      refine go_ild_2_1 rfl ?_
      refine go_call2 rfl (sp_isWire (d + 17) (qb_ui s 192 0 0) c (nw := nw) ((qb_t0 (by omega)).trans h1.2.2.1.1) (by omega) (by omega) _) (Nat.le_of_ble_eq_true rfl) (qb_qv rfl (by decide) (by decide)) ?_
      rw [qB_f hx]
      refine go_ifeq rfl (fun e => ?_) (fun e => ?_)
      · refine go_c rfl ?_
        exact fin_i rfl rfl rfl
      · exact absurd rfl e
theorem qT_way (d : Nat) (x y : Int32) : qT (d + 20) 52 209 [.int x, .int y] := qT_ro fun s c hZ => by
  obtain ⟨hx0, nw, nm, ns, V, F0, lo, hi, se, h1, h2, h3, h4⟩ := id hZ
  obtain ⟨hR, H, X, J, Lf, Sh, hI⟩ := id h2
  have hw := h1.1
  have hS := qS_73
  have hok := h1.m.ok
  obtain ⟨x1, x2, x3, x4⟩ := qz_X hR hI hw.2.2.1
  by_cases hx : 0 ≤ x ∧ x < nI nw
  · obtain ⟨i, hi0, rfl⟩ := qx_w (by omega) hx
    by_cases hy : 0 ≤ y ∧ y ≤ nI nm
    · obtain ⟨m, j1, j2, rfl⟩ := qx_in1 (a := 0) (b := nm) (by omega) hy.1 hy.2 (by decide)
      refine ⟨nI (qm_wr lo hi X i m), ?_, ?_⟩
      · refine (en_52 (d + 19) 64 (nI i) (nI m) _).trans ?_
        refine go_ald_3_0 rfl ?_
        refine go_ild_3_1 rfl ?_
        refine go_call2 rfl (sp_isWireB (d + 18) s c h1.2.1.1 _) (Nat.le_of_ble_eq_true rfl) (qb_qv rfl (by decide) (by decide)) ?_
        rw [qB_t hx]
        refine go_ifeq rfl (fun e => ?_) (fun e => ?_)
        · exact absurd e (by decide)
        · refine go_ild_3_2 rfl ?_
          refine go_iflt rfl (fun e1 => ?_) (fun e1 => ?_)
          · exact absurd e1 (nI_pos (by omega))
          · refine go_ild_3_2 rfl ?_
            refine go_ald_3_0 rfl ?_
            refine go_getr rfl ⟨_, rfl, rfl, by decide, by decide⟩ ?_
            refine go_geti rfl ⟨_, rfl, rfl, by decide, by decide⟩ ?_
            rw [h1.2.1.2.1]
            refine go_icle rfl (fun e2 => ?_) (fun e2 => ?_)
            · refine go_ald_3_0 rfl ?_
              refine go_getr rfl ⟨_, rfl, rfl, by decide, by decide⟩ ?_
              refine go_ald_3_0 rfl ?_
              refine go_getr rfl ⟨_, rfl, rfl, by decide, by decide⟩ ?_
              refine go_geti rfl (qS_f hS rfl) ?_
              rw [x1]
              refine go_ild_3_1 rfl ?_
              refine go_ild_3_2 rfl ?_
              refine go_call4 rfl (sp_wireBehind (d + 17) s c h1.c X i m x3 hi0 j2) (Nat.le_of_ble_eq_true rfl) (qb_qv rfl (by decide) (by decide)) ?_
              exact fin_i rfl rfl rfl
            · exact absurd hy.2 e2
      · rintro t rfl
        refine (en_209 (d + 19) 192 (nI i) (nI m) _).trans ?_
        refine go_ald_3_0 rfl ?_
        refine go_c rfl ?_
        refine go_puti rfl ⟨_, rfl, rfl, by decide, by decide⟩ rfl rfl ?_
        refine go_ald_3_0 rfl ?_
        refine go_ild_3_1 rfl ?_
        refine go_call2 rfl (sp_isWire (d + 17) (qb_ui s 192 0 0) c (nw := nw) ((qb_t0 (by omega)).trans h1.2.2.1.1) (by omega) (by omega) _) (Nat.le_of_ble_eq_true rfl) (qb_qv rfl (by decide) (by decide)) ?_
        rw [qB_t hx]
        refine go_ifeq rfl (fun e => ?_) (fun e => ?_)
        · exact absurd e (by decide)
        · refine go_ild_3_2 rfl ?_
          refine go_c rfl ?_
          refine go_ald_3_0 rfl ?_
          refine go_getr rfl ⟨_, rfl, rfl, by decide, by decide⟩ ?_
          refine go_c rfl ?_
          refine go_iald (j := 1) rfl ⟨rfl, by decide, by decide, by decide⟩ rfl (by decide) ?_
          rw [show (qb_ui s 192 0 0).1 194 1 = nI nm from (qb_t0 (by omega)).trans h1.2.2.1.2.1]
          refine go_call3 rfl (sp_isIn (d + 18) _ _ _ _) (Nat.le_of_ble_eq_true rfl) rfl ?_
          rw [qB_t hy]
          refine go_ifeq rfl (fun e1 => ?_) (fun e1 => ?_)
          · exact absurd e1 (by decide)
          · refine go_ald_3_0 rfl ?_
            refine go_ild_3_1 rfl ?_
            refine go_ald_3_0 rfl ?_
            refine go_getr rfl ⟨_, rfl, rfl, by decide, by decide⟩ ?_
            refine go_c rfl ?_
            refine go_iald (j := 31) rfl ⟨rfl, by decide, by decide, by decide⟩ rfl (by decide) ?_
            rw [show (qb_ui s 192 0 0).1 194 31 = nI X from (qb_t0 (by omega)).trans hI.2.1.1]
            refine go_call3 rfl (sp_wayOf (d + 16) _ c (qm_t0 h1.m) X i x3 hi0) (Nat.le_of_ble_eq_true rfl) (qb_qv rfl (by decide) (by decide)) ?_
            refine go_ild_3_2 rfl ?_
            refine go_call2 rfl (sp_wireAt (d + 18) _ m (qm_wy_62 hok X hi0) (by omega) _) (Nat.le_of_ble_eq_true rfl) rfl ?_
            refine go_goto rfl ?_
            rw [qm_wy_at hok X hi0 nm (Nat.le_refl _) m j2]
            exact fin_i rfl rfl rfl
    · refine ⟨-1, ?_, ?_⟩
      · refine (en_52 (d + 19) 64 (nI i) y _).trans ?_
        refine go_ald_3_0 rfl ?_
        refine go_ild_3_1 rfl ?_
        refine go_call2 rfl (sp_isWireB (d + 18) s c h1.2.1.1 _) (Nat.le_of_ble_eq_true rfl) (qb_qv rfl (by decide) (by decide)) ?_
        rw [qB_t hx]
        refine go_ifeq rfl (fun e => ?_) (fun e => ?_)
        · exact absurd e (by decide)
        · refine go_ild_3_2 rfl ?_
          refine go_iflt rfl (fun e1 => ?_) (fun e1 => ?_)
          · refine go_c rfl ?_
            exact fin_i rfl rfl rfl
          · refine go_ild_3_2 rfl ?_
            refine go_ald_3_0 rfl ?_
            refine go_getr rfl ⟨_, rfl, rfl, by decide, by decide⟩ ?_
            refine go_geti rfl ⟨_, rfl, rfl, by decide, by decide⟩ ?_
            rw [h1.2.1.2.1]
            refine go_icle rfl (fun e2 => ?_) (fun e2 => ?_)
            · exact absurd ⟨Int32.not_lt.mp e1, e2⟩ hy
            · refine go_c rfl ?_
              exact fin_i rfl rfl rfl
      · rintro t rfl
        refine (en_209 (d + 19) 192 (nI i) y _).trans ?_
        refine go_ald_3_0 rfl ?_
        refine go_c rfl ?_
        refine go_puti rfl ⟨_, rfl, rfl, by decide, by decide⟩ rfl rfl ?_
        refine go_ald_3_0 rfl ?_
        refine go_ild_3_1 rfl ?_
        refine go_call2 rfl (sp_isWire (d + 17) (qb_ui s 192 0 0) c (nw := nw) ((qb_t0 (by omega)).trans h1.2.2.1.1) (by omega) (by omega) _) (Nat.le_of_ble_eq_true rfl) (qb_qv rfl (by decide) (by decide)) ?_
        rw [qB_t hx]
        refine go_ifeq rfl (fun e => ?_) (fun e => ?_)
        · exact absurd e (by decide)
        · refine go_ild_3_2 rfl ?_
          refine go_c rfl ?_
          refine go_ald_3_0 rfl ?_
          refine go_getr rfl ⟨_, rfl, rfl, by decide, by decide⟩ ?_
          refine go_c rfl ?_
          refine go_iald (j := 1) rfl ⟨rfl, by decide, by decide, by decide⟩ rfl (by decide) ?_
          rw [show (qb_ui s 192 0 0).1 194 1 = nI nm from (qb_t0 (by omega)).trans h1.2.2.1.2.1]
          refine go_call3 rfl (sp_isIn (d + 18) _ _ _ _) (Nat.le_of_ble_eq_true rfl) rfl ?_
          rw [qB_f hy]
          refine go_ifeq rfl (fun e1 => ?_) (fun e1 => ?_)
          · refine go_c rfl ?_
            exact fin_i rfl rfl rfl
          · exact absurd rfl e1
  · refine ⟨-1, ?_, ?_⟩
    · refine (en_52 (d + 19) 64 x y _).trans ?_
      refine go_ald_3_0 rfl ?_
      refine go_ild_3_1 rfl ?_
      refine go_call2 rfl (sp_isWireB (d + 18) s c h1.2.1.1 _) (Nat.le_of_ble_eq_true rfl) (qb_qv rfl (by decide) (by decide)) ?_
      rw [qB_f hx]
      refine go_ifeq rfl (fun e => ?_) (fun e => ?_)
      · refine go_c rfl ?_
        exact fin_i rfl rfl rfl
      · exact absurd rfl e
    · rintro t rfl
      refine (en_209 (d + 19) 192 x y _).trans ?_
      refine go_ald_3_0 rfl ?_
      refine go_c rfl ?_
      refine go_puti rfl ⟨_, rfl, rfl, by decide, by decide⟩ rfl rfl ?_
      refine go_ald_3_0 rfl ?_
      refine go_ild_3_1 rfl ?_
      refine go_call2 rfl (sp_isWire (d + 17) (qb_ui s 192 0 0) c (nw := nw) ((qb_t0 (by omega)).trans h1.2.2.1.1) (by omega) (by omega) _) (Nat.le_of_ble_eq_true rfl) (qb_qv rfl (by decide) (by decide)) ?_
      rw [qB_f hx]
      refine go_ifeq rfl (fun e => ?_) (fun e => ?_)
      · refine go_c rfl ?_
        exact fin_i rfl rfl rfl
      · exact absurd rfl e
theorem qT_now (d : Nat) (x : Int32) : qT (d + 20) 53 210 [.int x] := qT_ro fun s c hZ => by
  obtain ⟨hx0, nw, nm, ns, V, F0, lo, hi, se, h1, h2, h3, h4⟩ := id hZ
  obtain ⟨hR, H, X, J, Lf, Sh, hI⟩ := id h2
  have hS := qS_73
  have hv : ∀ k, k < 6 → s.1 73 (4 + k) = s.1 194 (30 + k) := fun k hk => (qs_so_h (s := s) (a := 73) hk).symm.trans (hR.1 k (by omega) (by omega))
  by_cases q0 : x = 0
  · subst q0
    refine ⟨s.1 73 4, ?_, ?_⟩
    · refine (en_53 (d + 19) 64 0 _).trans ?_
      refine go_ild_2_1 rfl ?_
      refine go_sw2 (n := 48) rfl (by decide +kernel) ?_
      refine go_ald_2_0 rfl ?_
      refine go_getr rfl ⟨_, rfl, rfl, by decide, by decide⟩ ?_
      refine go_geti rfl (qS_f hS rfl) ?_
      exact fin_i rfl rfl rfl
    · rintro t rfl
      refine (en_210 (d + 19) 192 0 _).trans ?_
      refine go_ald_2_0 rfl ?_
      refine go_c rfl ?_
      refine go_puti rfl ⟨_, rfl, rfl, by decide, by decide⟩ rfl rfl ?_
      refine go_ild_2_1 rfl ?_
      refine go_sw2 (n := 52) rfl (by decide +kernel) ?_
      refine go_ald_2_0 rfl ?_
      refine go_getr rfl ⟨_, rfl, rfl, by decide, by decide⟩ ?_
      refine go_c rfl ?_
      refine go_iald (j := 30) rfl ⟨rfl, by decide, by decide, by decide⟩ rfl (by decide) ?_
      exact fin_i rfl rfl (qR_i ((qb_t0 (by omega)).trans (hv 0 (by decide)).symm))
  by_cases q1 : x = 1
  · subst q1
    refine ⟨s.1 73 5, ?_, ?_⟩
    · refine (en_53 (d + 19) 64 1 _).trans ?_
      refine go_ild_2_1 rfl ?_
      refine go_sw2 (n := 56) rfl (by decide +kernel) ?_
      refine go_ald_2_0 rfl ?_
      refine go_getr rfl ⟨_, rfl, rfl, by decide, by decide⟩ ?_
      refine go_geti rfl (qS_f hS rfl) ?_
      exact fin_i rfl rfl rfl
    · rintro t rfl
      refine (en_210 (d + 19) 192 1 _).trans ?_
      refine go_ald_2_0 rfl ?_
      refine go_c rfl ?_
      refine go_puti rfl ⟨_, rfl, rfl, by decide, by decide⟩ rfl rfl ?_
      refine go_ild_2_1 rfl ?_
      refine go_sw2 (n := 60) rfl (by decide +kernel) ?_
      refine go_ald_2_0 rfl ?_
      refine go_getr rfl ⟨_, rfl, rfl, by decide, by decide⟩ ?_
      refine go_c rfl ?_
      refine go_iald (j := 31) rfl ⟨rfl, by decide, by decide, by decide⟩ rfl (by decide) ?_
      exact fin_i rfl rfl (qR_i ((qb_t0 (by omega)).trans (hv 1 (by decide)).symm))
  by_cases q2 : x = 2
  · subst q2
    refine ⟨s.1 73 6, ?_, ?_⟩
    · refine (en_53 (d + 19) 64 2 _).trans ?_
      refine go_ild_2_1 rfl ?_
      refine go_sw2 (n := 64) rfl (by decide +kernel) ?_
      refine go_ald_2_0 rfl ?_
      refine go_getr rfl ⟨_, rfl, rfl, by decide, by decide⟩ ?_
      refine go_geti rfl (qS_f hS rfl) ?_
      exact fin_i rfl rfl rfl
    · rintro t rfl
      refine (en_210 (d + 19) 192 2 _).trans ?_
      refine go_ald_2_0 rfl ?_
      refine go_c rfl ?_
      refine go_puti rfl ⟨_, rfl, rfl, by decide, by decide⟩ rfl rfl ?_
      refine go_ild_2_1 rfl ?_
      refine go_sw2 (n := 68) rfl (by decide +kernel) ?_
      refine go_ald_2_0 rfl ?_
      refine go_getr rfl ⟨_, rfl, rfl, by decide, by decide⟩ ?_
      refine go_c rfl ?_
      refine go_iald (j := 32) rfl ⟨rfl, by decide, by decide, by decide⟩ rfl (by decide) ?_
      exact fin_i rfl rfl (qR_i ((qb_t0 (by omega)).trans (hv 2 (by decide)).symm))
  by_cases q3 : x = 3
  · subst q3
    refine ⟨nI (qs_up (qs_so s 73)), ?_, ?_⟩
    · refine (en_53 (d + 19) 64 3 _).trans ?_
      refine go_ild_2_1 rfl ?_
      refine go_sw2 (n := 72) rfl (by decide +kernel) ?_
      refine go_ald_2_0 rfl ?_
      refine go_getr rfl ⟨_, rfl, rfl, by decide, by decide⟩ ?_
      refine go_call1 rfl (sp_wiresUp (d + 17) s c hS) (Nat.le_of_ble_eq_true rfl) (qS_v hS) ?_
      exact fin_i rfl rfl rfl
    · rintro t rfl
      refine (en_210 (d + 19) 192 3 _).trans ?_
      refine go_ald_2_0 rfl ?_
      refine go_c rfl ?_
      refine go_puti rfl ⟨_, rfl, rfl, by decide, by decide⟩ rfl rfl ?_
      refine go_ild_2_1 rfl ?_
      refine go_sw2 (n := 76) rfl (by decide +kernel) ?_
      refine go_ald_2_0 rfl ?_
      refine go_call1 rfl (sp_onWires (d + 17) _ c) (Nat.le_of_ble_eq_true rfl) (qb_qv rfl (by decide) (by decide)) ?_
      exact fin_i rfl rfl (qR_i (by rw [qm_s0, hR.up]))
  by_cases q4 : x = 4
  · subst q4
    refine ⟨qs_at (qs_so s 73) 8, ?_, ?_⟩
    · refine (en_53 (d + 19) 64 4 _).trans ?_
      refine go_ild_2_1 rfl ?_
      refine go_sw2 (n := 80) rfl (by decide +kernel) ?_
      refine go_ald_2_0 rfl ?_
      refine go_getr rfl ⟨_, rfl, rfl, by decide, by decide⟩ ?_
      refine go_call1 rfl (sp_wiresReached (d + 17) s c hS) (Nat.le_of_ble_eq_true rfl) (qS_v hS) ?_
      exact fin_i rfl rfl rfl
    · rintro t rfl
      refine (en_210 (d + 19) 192 4 _).trans ?_
      refine go_ald_2_0 rfl ?_
      refine go_c rfl ?_
      refine go_puti rfl ⟨_, rfl, rfl, by decide, by decide⟩ rfl rfl ?_
      refine go_ild_2_1 rfl ?_
      refine go_sw2 (n := 81) rfl (by decide +kernel) ?_
      refine go_ald_2_0 rfl ?_
      refine go_call1 rfl (sp_atWires (d + 17) _ c) (Nat.le_of_ble_eq_true rfl) (qb_qv rfl (by decide) (by decide)) ?_
      exact fin_i rfl rfl (qR_i (by rw [qm_s0, hR.at 8 (Nat.le_refl _)]))
  by_cases q5 : x = 5
  · subst q5
    refine ⟨s.1 73 7, ?_, ?_⟩
    · refine (en_53 (d + 19) 64 5 _).trans ?_
      refine go_ild_2_1 rfl ?_
      refine go_sw2 (n := 88) rfl (by decide +kernel) ?_
      refine go_ald_2_0 rfl ?_
      refine go_getr rfl ⟨_, rfl, rfl, by decide, by decide⟩ ?_
      refine go_geti rfl (qS_f hS rfl) ?_
      exact fin_i rfl rfl rfl
    · rintro t rfl
      refine (en_210 (d + 19) 192 5 _).trans ?_
      refine go_ald_2_0 rfl ?_
      refine go_c rfl ?_
      refine go_puti rfl ⟨_, rfl, rfl, by decide, by decide⟩ rfl rfl ?_
      refine go_ild_2_1 rfl ?_
      refine go_sw2 (n := 86) rfl (by decide +kernel) ?_
      refine go_ald_2_0 rfl ?_
      refine go_getr rfl ⟨_, rfl, rfl, by decide, by decide⟩ ?_
      refine go_c rfl ?_
      refine go_iald (j := 33) rfl ⟨rfl, by decide, by decide, by decide⟩ rfl (by decide) ?_
      exact fin_i rfl rfl (qR_i ((qb_t0 (by omega)).trans (hv 3 (by decide)).symm))
  by_cases q6 : x = 6
  · subst q6
    refine ⟨s.1 73 8, ?_, ?_⟩
    · refine (en_53 (d + 19) 64 6 _).trans ?_
      refine go_ild_2_1 rfl ?_
      refine go_sw2 (n := 96) rfl (by decide +kernel) ?_
      refine go_ald_2_0 rfl ?_
      refine go_getr rfl ⟨_, rfl, rfl, by decide, by decide⟩ ?_
      refine go_geti rfl (qS_f hS rfl) ?_
      exact fin_i rfl rfl rfl
    · rintro t rfl
      refine (en_210 (d + 19) 192 6 _).trans ?_
      refine go_ald_2_0 rfl ?_
      refine go_c rfl ?_
      refine go_puti rfl ⟨_, rfl, rfl, by decide, by decide⟩ rfl rfl ?_
      refine go_ild_2_1 rfl ?_
      refine go_sw2 (n := 94) rfl (by decide +kernel) ?_
      refine go_ald_2_0 rfl ?_
      refine go_getr rfl ⟨_, rfl, rfl, by decide, by decide⟩ ?_
      refine go_c rfl ?_
      refine go_iald (j := 34) rfl ⟨rfl, by decide, by decide, by decide⟩ rfl (by decide) ?_
      exact fin_i rfl rfl (qR_i ((qb_t0 (by omega)).trans (hv 4 (by decide)).symm))
  by_cases q7 : x = 7
  · subst q7
    refine ⟨s.1 73 9, ?_, ?_⟩
    · refine (en_53 (d + 19) 64 7 _).trans ?_
      refine go_ild_2_1 rfl ?_
      refine go_sw2 (n := 104) rfl (by decide +kernel) ?_
      refine go_ald_2_0 rfl ?_
      refine go_getr rfl ⟨_, rfl, rfl, by decide, by decide⟩ ?_
      refine go_geti rfl (qS_f hS rfl) ?_
      exact fin_i rfl rfl rfl
    · rintro t rfl
      refine (en_210 (d + 19) 192 7 _).trans ?_
      refine go_ald_2_0 rfl ?_
      refine go_c rfl ?_
      refine go_puti rfl ⟨_, rfl, rfl, by decide, by decide⟩ rfl rfl ?_
      refine go_ild_2_1 rfl ?_
      refine go_sw2 (n := 102) rfl (by decide +kernel) ?_
      refine go_ald_2_0 rfl ?_
      refine go_getr rfl ⟨_, rfl, rfl, by decide, by decide⟩ ?_
      refine go_c rfl ?_
      refine go_iald (j := 35) rfl ⟨rfl, by decide, by decide, by decide⟩ rfl (by decide) ?_
      exact fin_i rfl rfl (qR_i ((qb_t0 (by omega)).trans (hv 5 (by decide)).symm))
  refine ⟨-1, ?_, ?_⟩
  · refine (en_53 (d + 19) 64 x _).trans ?_
    refine go_ild_2_1 rfl ?_
    refine go_sw2 (n := 112) rfl (by simp [qa_sw, q0, q1, q2, q3, q4, q5, q6, q7]) ?_
    refine go_c rfl ?_
    exact fin_i rfl rfl rfl
  · rintro t rfl
    refine (en_210 (d + 19) 192 x _).trans ?_
    refine go_ald_2_0 rfl ?_
    refine go_c rfl ?_
    refine go_puti rfl ⟨_, rfl, rfl, by decide, by decide⟩ rfl rfl ?_
    refine go_ild_2_1 rfl ?_
    refine go_sw2 (n := 110) rfl (by simp [qa_sw, q0, q1, q2, q3, q4, q5, q6, q7]) ?_
    refine go_c rfl ?_
    exact fin_i rfl rfl rfl
theorem qT_hears (d : Nat) (x : Int32) : qT (d + 20) 113 253 [.int x] := qT_ro fun s c hZ => by
  obtain ⟨hx0, nw, nm, ns, V, F0, lo, hi, se, h1, h2, h3, h4⟩ := id hZ
  obtain ⟨hR, H, X, J, Lf, Sh, hI⟩ := id h2
  have hw := h1.1
  have hS := qS_73
  obtain ⟨x1, x2, x3, x4⟩ := qz_X hR hI hw.2.2.1
  by_cases hx : 0 ≤ x ∧ x < nI ns
  · obtain ⟨i, hi0, rfl⟩ := qx_w (by omega) hx
    obtain ⟨g1, g2, g3, g4⟩ := h1.2.2.2.2 i hi0
    refine ⟨nI (qm_ac (fun w => qs_on (qs_so s 73) w && qm_th lo hi X w (se i)) nw), ?_, ?_⟩
    · refine (en_113 (d + 19) 64 (nI i) _).trans ?_
      refine go_ild_2_1 rfl ?_
      refine go_iflt rfl (fun e => ?_) (fun e => ?_)
      · exact absurd e (nI_pos (by omega))
      · refine go_ild_2_1 rfl ?_
        refine go_ald_2_0 rfl ?_
        refine go_getr rfl ⟨_, rfl, rfl, by decide, by decide⟩ ?_
        refine go_geti rfl ⟨_, rfl, rfl, by decide, by decide⟩ ?_
        rw [h1.2.1.2.2.1]
        refine go_iclt rfl (fun e2 => ?_) (fun e2 => ?_)
        · refine go_ald_2_0 rfl ?_
          refine go_getr rfl ⟨_, rfl, rfl, by decide, by decide⟩ ?_
          refine go_ald_2_0 rfl ?_
          refine go_getr rfl ⟨_, rfl, rfl, by decide, by decide⟩ ?_
          refine go_ald_2_0 rfl ?_
          refine go_getr rfl ⟨_, rfl, rfl, by decide, by decide⟩ ?_
          refine go_getr rfl ⟨_, rfl, rfl, by decide, by decide⟩ ?_
          refine go_ild_2_1 rfl ?_
          refine go_iald (j := i) rfl (⟨rfl, by decide, by decide, by decide⟩) (rfl) (by omega) ?_
          rw [g2]
          refine go_call3 rfl (sp_callsThrough (d + 16) s c hS h1.c x1 x3 (se i) g1) (Nat.le_of_ble_eq_true rfl) (qb_qv rfl (by decide) (by decide)) ?_
          exact fin_i rfl rfl rfl
        · exact absurd hx.2 e2
    · rintro t rfl
      refine (en_253 (d + 19) 192 (nI i) _).trans ?_
      refine go_ald_2_0 rfl ?_
      refine go_c rfl ?_
      refine go_puti rfl ⟨_, rfl, rfl, by decide, by decide⟩ rfl rfl ?_
      refine go_ild_2_1 rfl ?_
      refine go_c rfl ?_
      refine go_ald_2_0 rfl ?_
      refine go_getr rfl ⟨_, rfl, rfl, by decide, by decide⟩ ?_
      refine go_c rfl ?_
      refine go_iald (j := 2) rfl ⟨rfl, by decide, by decide, by decide⟩ rfl (by decide) ?_
      rw [show (qb_ui s 192 0 0).1 194 2 = nI ns from (qb_t0 (by omega)).trans h1.2.2.1.2.2.1]
      refine go_c rfl ?_
      refine go_isub rfl ?_
      refine go_call3 rfl (sp_isIn (d + 18) _ _ _ _) (Nat.le_of_ble_eq_true rfl) rfl ?_
      rw [qB_t ((qx_inA (by omega)).mpr hx)]
      refine go_ifeq rfl (fun e => ?_) (fun e => ?_)
      · exact absurd e (by decide)
      · refine go_ald_2_0 rfl ?_
        refine go_ald_2_0 rfl ?_
        refine go_getr rfl ⟨_, rfl, rfl, by decide, by decide⟩ ?_
        refine go_c rfl ?_
        refine go_ild_2_1 rfl ?_
        refine go_iadd rfl ?_
        refine go_iald (j := 25 + i) rfl (⟨rfl, by decide, by decide, by decide⟩) (nI_add 25 i) (by omega) ?_
        rw [show (qb_ui s 192 0 0).1 194 (25 + i) = nI (se i) from (qb_t0 (by omega)).trans (by rw [← g3, Nat.zero_add])]
        refine go_call2 rfl (sp_callsBy (d + 14) _ c (qm_t0 h1.m) X ((qb_t0 (by omega)).trans hI.2.1.1) x3 (se i) g1) (Nat.le_of_ble_eq_true rfl) (qb_qv rfl (by decide) (by decide)) ?_
        refine go_goto rfl ?_
        refine fin_i rfl rfl (qR_i (congrArg nI (qm_ac_cong fun k hk => ?_)))
        rw [qm_s0, hR.on (by omega)]
  · refine ⟨-1, ?_, ?_⟩
    · refine (en_113 (d + 19) 64 x _).trans ?_
      refine go_ild_2_1 rfl ?_
      refine go_iflt rfl (fun e => ?_) (fun e => ?_)
      · refine go_c rfl ?_
        exact fin_i rfl rfl rfl
      · refine go_ild_2_1 rfl ?_
        refine go_ald_2_0 rfl ?_
        refine go_getr rfl ⟨_, rfl, rfl, by decide, by decide⟩ ?_
        refine go_geti rfl ⟨_, rfl, rfl, by decide, by decide⟩ ?_
        rw [h1.2.1.2.2.1]
        refine go_iclt rfl (fun e2 => ?_) (fun e2 => ?_)
        · exact absurd ⟨Int32.not_lt.mp e, e2⟩ hx
        · refine go_c rfl ?_
          exact fin_i rfl rfl rfl
    · rintro t rfl
      refine (en_253 (d + 19) 192 x _).trans ?_
      refine go_ald_2_0 rfl ?_
      refine go_c rfl ?_
      refine go_puti rfl ⟨_, rfl, rfl, by decide, by decide⟩ rfl rfl ?_
      refine go_ild_2_1 rfl ?_
      refine go_c rfl ?_
      refine go_ald_2_0 rfl ?_
      refine go_getr rfl ⟨_, rfl, rfl, by decide, by decide⟩ ?_
      refine go_c rfl ?_
      refine go_iald (j := 2) rfl ⟨rfl, by decide, by decide, by decide⟩ rfl (by decide) ?_
      rw [show (qb_ui s 192 0 0).1 194 2 = nI ns from (qb_t0 (by omega)).trans h1.2.2.1.2.2.1]
      refine go_c rfl ?_
      refine go_isub rfl ?_
      refine go_call3 rfl (sp_isIn (d + 18) _ _ _ _) (Nat.le_of_ble_eq_true rfl) rfl ?_
      rw [qB_f (fun z => hx ((qx_inA (by omega)).mp z))]
      refine go_ifeq rfl (fun e => ?_) (fun e => ?_)
      · refine go_c rfl ?_
        exact fin_i rfl rfl rfl
      · exact absurd rfl e
theorem qT_share (d : Nat) (x y : Int32) : qT (d + 20) 115 254 [.int x, .int y] := qT_ro fun s c hZ => by
  obtain ⟨hx0, nw, nm, ns, V, F0, lo, hi, se, h1, h2, h3, h4⟩ := id hZ
  obtain ⟨hR, H, X, J, Lf, Sh, hI⟩ := id h2
  have hw := h1.1
  have hS := qS_73
  obtain ⟨x1, x2, x3, x4⟩ := qz_X hR hI hw.2.2.1
  by_cases hx : 0 ≤ x ∧ x < nI nw
  · obtain ⟨i, hi0, rfl⟩ := qx_w (by omega) hx
    by_cases hy : 0 ≤ y ∧ y < nI nw
    · obtain ⟨j, hj0, rfl⟩ := qx_w (by omega) hy
      refine ⟨nI (qm_ac (qm_th lo hi X i) nm) &&& nI (qm_ac (qm_th lo hi X j) nm), ?_, ?_⟩
      · refine (en_115 (d + 19) 64 (nI i) (nI j) _).trans ?_
        refine go_ald_3_0 rfl ?_
        refine go_ild_3_1 rfl ?_
        refine go_call2 rfl (sp_isWireB (d + 18) s c h1.2.1.1 _) (Nat.le_of_ble_eq_true rfl) (qb_qv rfl (by decide) (by decide)) ?_
        rw [qB_t hx]
        refine go_ifeq rfl (fun e => ?_) (fun e => ?_)
        · exact absurd e (by decide)
        · refine go_ald_3_0 rfl ?_
          refine go_ild_3_2 rfl ?_
          refine go_call2 rfl (sp_isWireB (d + 18) s c h1.2.1.1 _) (Nat.le_of_ble_eq_true rfl) (qb_qv rfl (by decide) (by decide)) ?_
          rw [qB_t hy]
          refine go_ifne rfl (fun e1 => ?_) (fun e1 => ?_)
          · exact absurd e1 (by decide)
          · refine go_ald_3_0 rfl ?_
            refine go_getr rfl ⟨_, rfl, rfl, by decide, by decide⟩ ?_
            refine go_ald_3_0 rfl ?_
            refine go_getr rfl ⟨_, rfl, rfl, by decide, by decide⟩ ?_
            refine go_geti rfl (qS_f hS rfl) ?_
            rw [x1]
            refine go_ild_3_1 rfl ?_
            refine go_call3 rfl (sp_switchesOf (d + 17) s c h1.c X i x3 hi0) (Nat.le_of_ble_eq_true rfl) (qb_qv rfl (by decide) (by decide)) ?_
            refine go_ald_3_0 rfl ?_
            refine go_getr rfl ⟨_, rfl, rfl, by decide, by decide⟩ ?_
            refine go_ald_3_0 rfl ?_
            refine go_getr rfl ⟨_, rfl, rfl, by decide, by decide⟩ ?_
            refine go_geti rfl (qS_f hS rfl) ?_
            rw [x1]
            refine go_ild_3_2 rfl ?_
            refine go_call3 rfl (sp_switchesOf (d + 17) s c h1.c X j x3 hj0) (Nat.le_of_ble_eq_true rfl) (qb_qv rfl (by decide) (by decide)) ?_
            refine go_iand rfl ?_
            exact fin_i rfl rfl rfl
      · rintro t rfl
        refine (en_254 (d + 19) 192 (nI i) (nI j) _).trans ?_
        refine go_ald_3_0 rfl ?_
        refine go_c rfl ?_
        refine go_puti rfl ⟨_, rfl, rfl, by decide, by decide⟩ rfl rfl ?_
        refine go_ald_3_0 rfl ?_
        refine go_ild_3_1 rfl ?_
        refine go_call2 rfl (sp_isWire (d + 17) (qb_ui s 192 0 0) c (nw := nw) ((qb_t0 (by omega)).trans h1.2.2.1.1) (by omega) (by omega) _) (Nat.le_of_ble_eq_true rfl) (qb_qv rfl (by decide) (by decide)) ?_
        rw [qB_t hx]
        refine go_ifeq rfl (fun e => ?_) (fun e => ?_)
        · exact absurd e (by decide)
        · refine go_ald_3_0 rfl ?_
          refine go_ild_3_2 rfl ?_
          refine go_call2 rfl (sp_isWire (d + 17) (qb_ui s 192 0 0) c (nw := nw) ((qb_t0 (by omega)).trans h1.2.2.1.1) (by omega) (by omega) _) (Nat.le_of_ble_eq_true rfl) (qb_qv rfl (by decide) (by decide)) ?_
          rw [qB_t hy]
          refine go_ifeq rfl (fun e1 => ?_) (fun e1 => ?_)
          · exact absurd e1 (by decide)
          · refine go_ald_3_0 rfl ?_
            refine go_ild_3_1 rfl ?_
            refine go_call2 rfl (sp_throughs (d + 15) _ c (qm_t0 h1.m) X i ((qb_t0 (by omega)).trans hI.2.1.1) x3 hi0) (Nat.le_of_ble_eq_true rfl) (qb_qv rfl (by decide) (by decide)) ?_
            refine go_ald_3_0 rfl ?_
            refine go_ild_3_2 rfl ?_
            refine go_call2 rfl (sp_throughs (d + 15) _ c (qm_t0 h1.m) X j ((qb_t0 (by omega)).trans hI.2.1.1) x3 hj0) (Nat.le_of_ble_eq_true rfl) (qb_qv rfl (by decide) (by decide)) ?_
            refine go_iand rfl ?_
            refine go_goto rfl ?_
            exact fin_i rfl rfl rfl
    · refine ⟨-1, ?_, ?_⟩
      · refine (en_115 (d + 19) 64 (nI i) y _).trans ?_
        refine go_ald_3_0 rfl ?_
        refine go_ild_3_1 rfl ?_
        refine go_call2 rfl (sp_isWireB (d + 18) s c h1.2.1.1 _) (Nat.le_of_ble_eq_true rfl) (qb_qv rfl (by decide) (by decide)) ?_
        rw [qB_t hx]
        refine go_ifeq rfl (fun e => ?_) (fun e => ?_)
        · exact absurd e (by decide)
        · refine go_ald_3_0 rfl ?_
          refine go_ild_3_2 rfl ?_
          refine go_call2 rfl (sp_isWireB (d + 18) s c h1.2.1.1 _) (Nat.le_of_ble_eq_true rfl) (qb_qv rfl (by decide) (by decide)) ?_
          rw [qB_f hy]
          refine go_ifne rfl (fun e1 => ?_) (fun e1 => ?_)
          · refine go_c rfl ?_
            exact fin_i rfl rfl rfl
          · exact absurd rfl e1
      · rintro t rfl
        refine (en_254 (d + 19) 192 (nI i) y _).trans ?_
        refine go_ald_3_0 rfl ?_
        refine go_c rfl ?_
        refine go_puti rfl ⟨_, rfl, rfl, by decide, by decide⟩ rfl rfl ?_
        refine go_ald_3_0 rfl ?_
        refine go_ild_3_1 rfl ?_
        refine go_call2 rfl (sp_isWire (d + 17) (qb_ui s 192 0 0) c (nw := nw) ((qb_t0 (by omega)).trans h1.2.2.1.1) (by omega) (by omega) _) (Nat.le_of_ble_eq_true rfl) (qb_qv rfl (by decide) (by decide)) ?_
        rw [qB_t hx]
        refine go_ifeq rfl (fun e => ?_) (fun e => ?_)
        · exact absurd e (by decide)
        · refine go_ald_3_0 rfl ?_
          refine go_ild_3_2 rfl ?_
          refine go_call2 rfl (sp_isWire (d + 17) (qb_ui s 192 0 0) c (nw := nw) ((qb_t0 (by omega)).trans h1.2.2.1.1) (by omega) (by omega) _) (Nat.le_of_ble_eq_true rfl) (qb_qv rfl (by decide) (by decide)) ?_
          rw [qB_f hy]
          refine go_ifeq rfl (fun e1 => ?_) (fun e1 => ?_)
          · refine go_c rfl ?_
            exact fin_i rfl rfl rfl
          · exact absurd rfl e1
  · refine ⟨-1, ?_, ?_⟩
    · refine (en_115 (d + 19) 64 x y _).trans ?_
      refine go_ald_3_0 rfl ?_
      refine go_ild_3_1 rfl ?_
      refine go_call2 rfl (sp_isWireB (d + 18) s c h1.2.1.1 _) (Nat.le_of_ble_eq_true rfl) (qb_qv rfl (by decide) (by decide)) ?_
      rw [qB_f hx]
      refine go_ifeq rfl (fun e => ?_) (fun e => ?_)
      · refine go_c rfl ?_
        exact fin_i rfl rfl rfl
      · exact absurd rfl e
    · rintro t rfl
      refine (en_254 (d + 19) 192 x y _).trans ?_
      refine go_ald_3_0 rfl ?_
      refine go_c rfl ?_
      refine go_puti rfl ⟨_, rfl, rfl, by decide, by decide⟩ rfl rfl ?_
      refine go_ald_3_0 rfl ?_
      refine go_ild_3_1 rfl ?_
      refine go_call2 rfl (sp_isWire (d + 17) (qb_ui s 192 0 0) c (nw := nw) ((qb_t0 (by omega)).trans h1.2.2.1.1) (by omega) (by omega) _) (Nat.le_of_ble_eq_true rfl) (qb_qv rfl (by decide) (by decide)) ?_
      rw [qB_f hx]
      refine go_ifeq rfl (fun e => ?_) (fun e => ?_)
      · refine go_c rfl ?_
        exact fin_i rfl rfl rfl
      · exact absurd rfl e
