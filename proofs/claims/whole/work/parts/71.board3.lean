/-! a board's lines: a switch -/
theorem br_switch (d d' : Nat) (c : Nat × Nat) {M : qb_M} {n l : Nat} {b : Nat → Nat} {p : Nat} (hC : rC M n l b p) (hM : rM M n l b p) (hk : tx_k n l b p = 2) {nw nm ns V F0 : Nat} {lo hi se : Nat → Nat} {wt vt : Bool} (hB : bD M nw nm ns V F0 lo hi se wt vt) : ∃ M' r, (∀ u, qe (d + 6) 32 [.ref 139, .ref 65] (qb_hp (qj M u), 149, c) = some (some (.int (r)), (qb_hp (qj M' u), 149, c))) ∧ (∀ u, qe (d' + 7) 184 [.ref 192] (qb_hp (qj u M), 149, c) = some (some (.int (r)), (qb_hp (qj u M'), 149, c))) ∧ rO bF bG n l b p M M' r bE := by
  obtain ⟨hZ, ⟨w1, w2⟩, v1, v2⟩ := id hB
  obtain ⟨z0, ⟨z1, z2, z3, z4, z5⟩, ⟨y1, y2, y3, y4, y5⟩, z6, z7⟩ := id hZ
  by_cases h10 : nm = 10
  · refine bo_fail (A := M) (B := M) (f := 4) (pl := tx_p n l b p) (P1 := bF) (Q1 := bF) (fun u => ?_) (fun u => ?_) (tx_p9 hC) qG.rf qG.rf (fun x j h => bG_of h)
    · refine (en_32 (d + 5) 139 65 _).trans ?_
      refine go_ald_2_0 rfl ?_
      refine go_geti rfl ⟨_, rfl, rfl, by decide, by decide⟩ ?_
      refine go_c rfl ?_
      rw [show (qj M u).1 139 6 = nI nm from z2, h10]
      refine go_iclt rfl (fun e => ?_) (fun e => ?_)
      · exact absurd e (by decide)
      · refine go_ald_2_1 rfl ?_
        refine go_c rfl ?_
        refine go_call2 rfl (pc_fail (d + 4) c hC 4 u) (Nat.le_of_ble_eq_true rfl) (qb_qv rfl (by decide) (by decide)) ?_
        exact fin_i rfl rfl rfl
    · have hb := pm_bad (d' + 4) c hM 4 u
      rw [if_neg (by omega)] at hb
      have hf : qe (d' + 6) 185 [.ref 192, .int 1, .int 10] (qb_hp (qj u M), 149, c) = some (some (.int (0)), (qb_hp (qj u (fM M 4 (tx_p n l b p))), 149, c)) := by
        refine (en_185 (d' + 5) 192 1 10 _).trans ?_
        refine go_ald_3_0 rfl ?_
        refine go_getr rfl ⟨_, rfl, rfl, by decide, by decide⟩ ?_
        refine go_ild_3_1 rfl ?_
        refine go_iald (j := 1) rfl (⟨rfl, by decide, by decide, by decide⟩) (rfl) (by decide) ?_
        refine go_ild_3_2 rfl ?_
        rw [show (qj u M).1 195 1 = nI nm from y2, h10]
        refine go_icne rfl (fun e => ?_) (fun e => ?_)
        · refine go_ald_3_0 rfl ?_
          refine go_c rfl ?_
          refine go_call2 rfl (hb) (Nat.le_of_ble_eq_true rfl) (qb_qv rfl (by decide) (by decide)) ?_
          exact fin_i rfl rfl rfl
        · exact absurd rfl e
      refine (en_184 (d' + 6) 192 _).trans ?_
      refine go_ald_2_0 rfl ?_
      refine go_c rfl ?_
      refine go_c rfl ?_
      refine go_call3 rfl (hf) (Nat.le_of_ble_eq_true rfl) (qb_qv rfl (by decide) (by decide)) ?_
      refine go_ifne rfl (fun e => ?_) (fun e => ?_)
      · refine go_c rfl ?_
        exact fin_i rfl rfl rfl
      · exact absurd rfl e
  · have hnm : nm < 10 := by omega
    obtain ⟨A1, a1, a2, a3⟩ := pc_step (d + 2) c hC
    obtain ⟨B1, b1, b2, b3⟩ := pm_go (d' + 2) c hM
    have hpe := tx_e_lt hC.1 (by omega) (by omega : tx_k n l b p ≠ 1)
    obtain ⟨p1, hp1⟩ : ∃ p1, p1 = tx_e n l b p := ⟨_, rfl⟩
    rw [← hp1] at a2 b2 hpe
    have c1 : ∀ u R, qa_lm (qe (d + 5)) (qa_cd qc_32) (19, [.ref 139, .ref 65], [], (qb_hp (qj A1 u), 149, c)) = R → qe (d + 6) 32 [.ref 139, .ref 65] (qb_hp (qj M u), 149, c) = R := fun u R hR => by
      refine (en_32 (d + 5) 139 65 _).trans ?_
      refine go_ald_2_0 rfl ?_
      refine go_geti rfl ⟨_, rfl, rfl, by decide, by decide⟩ ?_
      refine go_c rfl ?_
      rw [show (qj M u).1 139 6 = nI nm from z2]
      refine go_iclt rfl (fun e => ?_) (fun e => ?_)
      · refine go_ald_2_1 rfl ?_
        refine go_call1 rfl (a1 u) (Nat.le_of_ble_eq_true rfl) (qb_qv rfl (by decide) (by decide)) ?_
        exact hR
      · exact absurd (nI_lt hnm (by decide)) e
    have m1 : ∀ u R, qa_lm (qe (d' + 6)) (qa_cd qc_184) (19, [.ref 192, .int (nI nm)], [], (qb_hp (qj u B1), 149, c)) = R → qe (d' + 7) 184 [.ref 192] (qb_hp (qj u M), 149, c) = R := fun u R hR => by
      have hf : qe (d' + 6) 185 [.ref 192, .int 1, .int 10] (qb_hp (qj u M), 149, c) = some (some (.int (1)), (qb_hp (qj u B1), 149, c)) := by
        refine (en_185 (d' + 5) 192 1 10 _).trans ?_
        refine go_ald_3_0 rfl ?_
        refine go_getr rfl ⟨_, rfl, rfl, by decide, by decide⟩ ?_
        refine go_ild_3_1 rfl ?_
        refine go_iald (j := 1) rfl (⟨rfl, by decide, by decide, by decide⟩) (rfl) (by decide) ?_
        refine go_ild_3_2 rfl ?_
        rw [show (qj u M).1 195 1 = nI nm from y2]
        refine go_icne rfl (fun e => ?_) (fun e => ?_)
        · exact absurd ((nI_eq (b := 10) (by omega) (by decide)).mp e) h10
        · refine go_ald_3_0 rfl ?_
          refine go_call1 rfl (b1 u) (Nat.le_of_ble_eq_true rfl) (qb_qv rfl (by decide) (by decide)) ?_
          refine go_c rfl ?_
          exact fin_i rfl rfl rfl
      refine (en_184 (d' + 6) 192 _).trans ?_
      refine go_ald_2_0 rfl ?_
      refine go_c rfl ?_
      refine go_c rfl ?_
      refine go_call3 rfl (hf) (Nat.le_of_ble_eq_true rfl) (qb_qv rfl (by decide) (by decide)) ?_
      refine go_ifne rfl (fun e => ?_) (fun e => ?_)
      · exact absurd e (by decide)
      · refine go_ald_2_0 rfl ?_
        refine go_getr rfl ⟨_, rfl, rfl, by decide, by decide⟩ ?_
        refine go_c rfl ?_
        refine go_iald (j := 1) rfl ⟨rfl, by decide, by decide, by decide⟩ rfl (by decide) ?_
        rw [show (qj u B1).1 195 1 = nI nm from (b3.i (by omega)).trans y2]
        refine go_ist_2_1 rfl rfl ?_
        exact hR
    have hN : nR A1 B1 nm ns := ⟨⟨(a3.i (by omega)).trans z2, (a3.i (by omega)).trans z3⟩, ⟨(b3.i (by omega)).trans y2, (b3.i (by omega)).trans y3⟩, ⟨by omega, z0.2.2.2.1⟩, fun k hk => by
      rw [a3.l (by omega), b3.l (by omega)]
      have := (z6 k hk).2.2.2
      rw [Nat.zero_add] at this
      exact this, fun k hk => by
      rw [a3.l (by omega), b3.l (by omega)]
      have := (z7 k hk).2.2.2
      rw [Nat.zero_add] at this
      exact this⟩
    rcases nn_both (d + 1) (d' + 1) c a2 b2 hN nm (by omega) with ⟨k2, g1, B2, g2, g3, g4, g5⟩ | ⟨f, g1, g2⟩
    · have hok := tx_l_ok a2.1 k2
      have hL : ∀ u, (qj A1 u).2.1 65 9 = lN (qn_32 (tx_l n b p1)) := fun u => (a2.2.2.2.2.2.1 k2).1
      obtain ⟨A2, e1, e2, e3⟩ := pc_step (d + 2) c (a2.mv (P := fun x k => x = 142) (N := qb_ul A1 142 nm (lN (qn_32 (tx_l n b p1)))) (qG.rf.ul rfl) (fun x k h => by omega))
      have hpe1 := tx_e_lt a2.1 (by omega) (by omega : tx_k n l b p1 ≠ 1)
      obtain ⟨p2, hp2⟩ : ∃ p2, p2 = tx_e n l b p1 := ⟨_, rfl⟩
      rw [← hp2] at e2 g3 hpe1
      have gA2 : qG (fun x k => x = 65 ∧ 5 ≤ k ∧ k ≤ 10 ∨ x = 142 ∧ k = nm) M A2 := ((a3.mo (fun x k h => by omega)).tr (qG.rf.ul (by omega))).tr (e3.mo (fun x k h => by omega))
      have gB2 : qG (fun x k => x = 192 ∧ (5 ≤ k ∧ k ≤ 9 ∨ k = 12 ∨ k = 13) ∨ x = 200 ∧ k = nm) M B2 := (b3.mo (fun x k h => by omega)).tr (g5.mo (fun x k h => by omega))
      have n2 : A2.2.1 142 nm = lN (qn_32 (tx_l n b p1)) := (e3.l (by omega)).trans qb_ul_1s
      have c2 : ∀ u R, qa_lm (qe (d + 5)) (qa_cd qc_32) (46, [.ref 139, .ref 65], [], (qb_hp (qj A2 u), 149, c)) = R → qe (d + 6) 32 [.ref 139, .ref 65] (qb_hp (qj M u), 149, c) = R := fun u R hR => c1 u R (by
        refine go_ald_2_0 rfl ?_
        refine go_ald_2_1 rfl ?_
        refine go_call2 rfl (g1 u) (Nat.le_of_ble_eq_true rfl) (qb_qv rfl (by decide) (by decide)) ?_
        refine go_ifne rfl (fun e => ?_) (fun e => ?_)
        · exact absurd e (by decide)
        · refine go_ald_2_0 rfl ?_
          refine go_getr rfl ⟨_, rfl, rfl, by decide, by decide⟩ ?_
          refine go_ald_2_0 rfl ?_
          refine go_geti rfl ⟨_, rfl, rfl, by decide, by decide⟩ ?_
          rw [show (qj A1 u).1 139 6 = nI nm from (a3.i (by omega)).trans z2]
          refine go_ald_2_1 rfl ?_
          refine go_getl rfl ⟨_, rfl, rfl, by decide, by decide⟩ ?_
          rw [hL]
          refine go_last (j := nm) rfl (⟨rfl, by decide, by decide, by decide⟩) (rfl) (by omega) ?_
          rw [qj_ul (by decide)]
          refine go_ald_2_1 rfl ?_
          refine go_call1 rfl (e1 u) (Nat.le_of_ble_eq_true rfl) (qb_qv rfl (by decide) (by decide)) ?_
          exact hR)
      have m2 : ∀ u R, qa_lm (qe (d' + 6)) (qa_cd qc_184) (27, [.ref 192, .int (nI nm)], [], (qb_hp (qj u B2), 149, c)) = R → qe (d' + 7) 184 [.ref 192] (qb_hp (qj u M), 149, c) = R := fun u R hR => m1 u R (by
        refine go_ald_2_0 rfl ?_
        refine go_ild_2_1 rfl ?_
        refine go_call2 rfl (g2 u) (Nat.le_of_ble_eq_true rfl) (qb_qv rfl (by decide) (by decide)) ?_
        refine go_ifeq rfl (fun e => ?_) (fun e => ?_)
        · exact absurd e (by decide)
        · exact hR)
      have hnw1 : nI nw - 1 = nI (nw - 1) := by
        have := nI_p1 (nw - 1)
        rw [show nw - 1 + 1 = nw by omega] at this
        exact this
      rcases nb_both (d + 3) (d' + 2) c e2 g3 0 (nI (nw - 1)) with ⟨k3, hr, f1, B3, f2, f3, f4, f5⟩ | ⟨f, f1, f2⟩
      · have h8 : A2.1 65 8 = nI (tx_n n b p2) := e2.2.2.2.2.2.2.2 k3
        obtain ⟨x1, hx1⟩ : ∃ x1, x1 = tx_n n b p2 := ⟨_, rfl⟩
        rw [← hx1] at h8 hr f4
        have hx9 : 0 ≤ x1 ∧ x1 ≤ nw - 1 := tx_rng (by rw [hx1]; exact tx_n9 k3) (by decide) (by omega) hr
        obtain ⟨A3, o1, o2, o3⟩ := pc_step (d + 2) c (e2.mv (P := fun x k => x = 140) (N := qb_ui A2 140 nm (nI x1)) (qG.rf.ui rfl) (fun x k h => by omega))
        have hpe2 := tx_e_lt e2.1 (by omega) (by omega : tx_k n l b p2 ≠ 1)
        obtain ⟨p3, hp3⟩ : ∃ p3, p3 = tx_e n l b p2 := ⟨_, rfl⟩
        rw [← hp3] at o2 f3 hpe2
        have gA3 : qG (fun x k => x = 65 ∧ 5 ≤ k ∧ k ≤ 10 ∨ (x = 140 ∨ x = 142) ∧ k = nm) M A3 := ((gA2.mo (fun x k h => by omega)).tr (qG.rf.ui (by omega))).tr (o3.mo (fun x k h => by omega))
        have gB3 : qG (fun x k => x = 192 ∧ (5 ≤ k ∧ k ≤ 9 ∨ k = 12 ∨ k = 13) ∨ x = 200 ∧ k = nm ∨ x = 195 ∧ k = 5 + nm) M (qb_ui B3 195 (5 + nm) (nI x1)) := ((gB2.mo (fun x k h => by omega)).tr (f5.mo (fun x k h => by omega))).ui (by omega)
        have n3 : A3.2.1 142 nm = lN (qn_32 (tx_l n b p1)) := (o3.l (by omega)).trans n2
        have l3 : A3.1 140 nm = nI x1 := (o3.i (by omega)).trans qb_ui_1s
        have f3' : rM (qb_ui B3 195 (5 + nm) (nI x1)) n l b p3 := f3.mv (P := fun x k => x = 195) (qG.rf.ui rfl) (fun x k h => by omega)
        have c3 : ∀ u R, qa_lm (qe (d + 5)) (qa_cd qc_32) (79, [.ref 139, .ref 65], [], (qb_hp (qj A3 u), 149, c)) = R → qe (d + 6) 32 [.ref 139, .ref 65] (qb_hp (qj M u), 149, c) = R := fun u R hR => c2 u R (by
          refine go_ald_2_1 rfl ?_
          refine go_c rfl ?_
          refine go_ald_2_0 rfl ?_
          refine go_geti rfl ⟨_, rfl, rfl, by decide, by decide⟩ ?_
          refine go_c rfl ?_
          refine go_isub rfl ?_
          rw [show (qj A2 u).1 139 5 = nI nw from (gA2.i (by omega)).trans z1, hnw1]
          refine go_call3 rfl (f1 u) (Nat.le_of_ble_eq_true rfl) (qb_qv rfl (by decide) (by decide)) ?_
          refine go_ifne rfl (fun e => ?_) (fun e => ?_)
          · exact absurd e (by decide)
          · refine go_ald_2_0 rfl ?_
            refine go_getr rfl ⟨_, rfl, rfl, by decide, by decide⟩ ?_
            refine go_ald_2_0 rfl ?_
            refine go_geti rfl ⟨_, rfl, rfl, by decide, by decide⟩ ?_
            rw [show (qj A2 u).1 139 6 = nI nm from (gA2.i (by omega)).trans z2]
            refine go_ald_2_1 rfl ?_
            refine go_geti rfl ⟨_, rfl, rfl, by decide, by decide⟩ ?_
            rw [show (qj A2 u).1 65 8 = nI x1 from h8]
            refine go_iast (j := nm) rfl (⟨rfl, by decide, by decide, by decide⟩) (rfl) (by omega) ?_
            rw [qj_ui (by decide)]
            refine go_ald_2_1 rfl ?_
            refine go_call1 rfl (o1 u) (Nat.le_of_ble_eq_true rfl) (qb_qv rfl (by decide) (by decide)) ?_
            exact hR)
        have m3 : ∀ u R, qa_lm (qe (d' + 6)) (qa_cd qc_184) (50, [.ref 192, .int (nI nm)], [], (qb_hp (qj u (qb_ui B3 195 (5 + nm) (nI x1))), 149, c)) = R → qe (d' + 7) 184 [.ref 192] (qb_hp (qj u M), 149, c) = R := fun u R hR => m2 u R (by
          have hpt := pm_put1 (d' + 5) (qj u B3) c (5 + nm) (by omega)
          rw [show (qj u B3).1 192 13 = nI x1 from f4, qj_UI (by decide)] at hpt
          refine go_ald_2_0 rfl ?_
          refine go_c rfl ?_
          refine go_ild_2_1 rfl ?_
          refine go_iadd rfl ?_
          rw [show (5 : Int32) = nI 5 from rfl, nI_add]
          refine go_ald_2_0 rfl ?_
          refine go_c rfl ?_
          refine go_ald_2_0 rfl ?_
          refine go_getr rfl ⟨_, rfl, rfl, by decide, by decide⟩ ?_
          refine go_c rfl ?_
          refine go_iald (j := 0) rfl ⟨rfl, by decide, by decide, by decide⟩ rfl (by decide) ?_
          refine go_c rfl ?_
          refine go_isub rfl ?_
          rw [show (qj u B2).1 195 0 = nI nw from (gB2.i (by omega)).trans y1, hnw1]
          refine go_call3 rfl (f2 u) (Nat.le_of_ble_eq_true rfl) (qb_qv rfl (by decide) (by decide)) ?_
          refine go_call3 rfl (hpt) (Nat.le_of_ble_eq_true rfl) (qb_qv rfl (by decide) (by decide)) ?_
          refine go_ifeq rfl (fun e => ?_) (fun e => ?_)
          · exact absurd e (by decide)
          · exact hR)
        rcases nb_both (d + 3) (d' + 2) c o2 f3' (nI (x1 + 1)) (nI (nw - 1)) with ⟨k4, hr2, i1, B4, i2, i3, i4, i5⟩ | ⟨f, i1, i2⟩
        · have h82 : A3.1 65 8 = nI (tx_n n b p3) := o2.2.2.2.2.2.2.2 k4
          obtain ⟨x2, hx2⟩ : ∃ x2, x2 = tx_n n b p3 := ⟨_, rfl⟩
          rw [← hx2] at h82 hr2 i4
          have hx29 : x1 + 1 ≤ x2 ∧ x2 ≤ nw - 1 := tx_rng (by rw [hx2]; exact tx_n9 k4) (by omega) (by omega) hr2
          obtain ⟨A4, q1, q2, q3⟩ := pc_step (d + 2) c (o2.mv (P := fun x k => x = 141) (N := qb_ui A3 141 nm (nI x2)) (qG.rf.ui rfl) (fun x k h => by omega))
          have hpe3 := tx_e_lt o2.1 (by omega) (by omega : tx_k n l b p3 ≠ 1)
          obtain ⟨p4, hp4⟩ : ∃ p4, p4 = tx_e n l b p3 := ⟨_, rfl⟩
          rw [← hp4] at q2 i3 hpe3
          have gA4 : qG (fun x k => x = 65 ∧ 5 ≤ k ∧ k ≤ 10 ∨ (x = 140 ∨ x = 141 ∨ x = 142) ∧ k = nm) M A4 := ((gA3.mo (fun x k h => by omega)).tr (qG.rf.ui (by omega))).tr (q3.mo (fun x k h => by omega))
          have gB4 : qG (fun x k => x = 192 ∧ (5 ≤ k ∧ k ≤ 9 ∨ k = 12 ∨ k = 13) ∨ x = 200 ∧ k = nm ∨ x = 195 ∧ (k = 5 + nm ∨ k = 15 + nm)) M (qb_ui B4 195 (15 + nm) (nI x2)) := ((gB3.mo (fun x k h => by omega)).tr (i5.mo (fun x k h => by omega))).ui (by omega)
          have n4 : A4.2.1 142 nm = lN (qn_32 (tx_l n b p1)) := (q3.l (by omega)).trans n3
          have l4 : A4.1 140 nm = nI x1 := (q3.i (by omega)).trans ((qb_ui_1n (Or.inl (by decide))).trans l3)
          have r4 : A4.1 141 nm = nI x2 := (q3.i (by omega)).trans qb_ui_1s
          obtain ⟨B4', hB4'⟩ : ∃ B4', B4' = qb_ui B4 195 (15 + nm) (nI x2) := ⟨_, rfl⟩
          rw [← hB4'] at gB4
          have i3' : rM B4' n l b p4 := by rw [hB4']; exact i3.mv (P := fun x k => x = 195) (qG.rf.ui rfl) (fun x k h => by omega)
          have ml4 : B4'.1 195 (5 + nm) = nI x1 := by rw [hB4']; exact (qb_ui_1n (Or.inr (by omega))).trans ((i5.i (by omega)).trans qb_ui_1s)
          have mr4 : B4'.1 195 (15 + nm) = nI x2 := by rw [hB4']; exact qb_ui_1s
          have mn4 : B4'.2.1 200 nm = lN (qn_27 (tx_l n b p1)) := by rw [hB4']; exact (i5.l (by omega)).trans ((f5.l (by omega)).trans g4)
          have c4 : ∀ u R, qa_lm (qe (d + 5)) (qa_cd qc_32) (122, [.ref 139, .ref 65], [], (qb_hp (qj A4 u), 149, c)) = R → qe (d + 6) 32 [.ref 139, .ref 65] (qb_hp (qj M u), 149, c) = R := fun u R hR => c3 u R (by
            refine go_ald_2_1 rfl ?_
            refine go_ald_2_0 rfl ?_
            refine go_getr rfl ⟨_, rfl, rfl, by decide, by decide⟩ ?_
            refine go_ald_2_0 rfl ?_
            refine go_geti rfl ⟨_, rfl, rfl, by decide, by decide⟩ ?_
            rw [show (qj A3 u).1 139 6 = nI nm from (gA3.i (by omega)).trans z2]
            refine go_iald (j := nm) rfl (⟨rfl, by decide, by decide, by decide⟩) (rfl) (by omega) ?_
            rw [show (qj A3 u).1 140 nm = nI x1 from l3]
            refine go_c rfl ?_
            refine go_iadd rfl ?_
            rw [nI_1]
            refine go_ald_2_0 rfl ?_
            refine go_geti rfl ⟨_, rfl, rfl, by decide, by decide⟩ ?_
            refine go_c rfl ?_
            refine go_isub rfl ?_
            rw [show (qj A3 u).1 139 5 = nI nw from (gA3.i (by omega)).trans z1, hnw1]
            refine go_call3 rfl (i1 u) (Nat.le_of_ble_eq_true rfl) (qb_qv rfl (by decide) (by decide)) ?_
            refine go_ifne rfl (fun e => ?_) (fun e => ?_)
            · exact absurd e (by decide)
            · refine go_ald_2_0 rfl ?_
              refine go_getr rfl ⟨_, rfl, rfl, by decide, by decide⟩ ?_
              refine go_ald_2_0 rfl ?_
              refine go_geti rfl ⟨_, rfl, rfl, by decide, by decide⟩ ?_
              rw [show (qj A3 u).1 139 6 = nI nm from (gA3.i (by omega)).trans z2]
              refine go_ald_2_1 rfl ?_
              refine go_geti rfl ⟨_, rfl, rfl, by decide, by decide⟩ ?_
              rw [show (qj A3 u).1 65 8 = nI x2 from h82]
              refine go_iast (j := nm) rfl (⟨rfl, by decide, by decide, by decide⟩) (rfl) (by omega) ?_
              rw [qj_ui (by decide)]
              refine go_ald_2_1 rfl ?_
              refine go_call1 rfl (q1 u) (Nat.le_of_ble_eq_true rfl) (qb_qv rfl (by decide) (by decide)) ?_
              exact hR)
          have m4 : ∀ u R, qa_lm (qe (d' + 6)) (qa_cd qc_184) (85, [.ref 192, .int (nI nm)], [], (qb_hp (qj u B4'), 149, c)) = R → qe (d' + 7) 184 [.ref 192] (qb_hp (qj u M), 149, c) = R := fun u R hR => m3 u R (by
            have hpt := pm_put1 (d' + 5) (qj u B4) c (15 + nm) (by omega)
            rw [show (qj u B4).1 192 13 = nI x2 from i4, qj_UI (by decide), ← hB4'] at hpt
            refine go_ald_2_0 rfl ?_
            refine go_c rfl ?_
            refine go_ild_2_1 rfl ?_
            refine go_iadd rfl ?_
            rw [show (15 : Int32) = nI 15 from rfl, nI_add]
            refine go_ald_2_0 rfl ?_
            refine go_ald_2_0 rfl ?_
            refine go_getr rfl ⟨_, rfl, rfl, by decide, by decide⟩ ?_
            refine go_c rfl ?_
            refine go_ild_2_1 rfl ?_
            refine go_iadd rfl ?_
            rw [show (5 : Int32) = nI 5 from rfl, nI_add]
            refine go_iald (j := 5 + nm) rfl (⟨rfl, by decide, by decide, by decide⟩) (rfl) (by omega) ?_
            rw [show (qj u (qb_ui B3 195 (5 + nm) (nI x1))).1 195 (5 + nm) = nI x1 from qb_ui_1s]
            refine go_c rfl ?_
            refine go_iadd rfl ?_
            rw [nI_1]
            refine go_ald_2_0 rfl ?_
            refine go_getr rfl ⟨_, rfl, rfl, by decide, by decide⟩ ?_
            refine go_c rfl ?_
            refine go_iald (j := 0) rfl ⟨rfl, by decide, by decide, by decide⟩ rfl (by decide) ?_
            refine go_c rfl ?_
            refine go_isub rfl ?_
            rw [show (qj u (qb_ui B3 195 (5 + nm) (nI x1))).1 195 0 = nI nw from (gB3.i (by omega)).trans y1, hnw1]
            refine go_call3 rfl (i2 u) (Nat.le_of_ble_eq_true rfl) (qb_qv rfl (by decide) (by decide)) ?_
            refine go_call3 rfl (hpt) (Nat.le_of_ble_eq_true rfl) (qb_qv rfl (by decide) (by decide)) ?_
            refine go_ifne rfl (fun e => ?_) (fun e => ?_)
            · exact absurd e (by decide)
            · exact hR)
          -- behind the mark of what is changed
          have last : ∀ (A5 B5 : qb_M) (p5 G0 : Nat), p4 ≤ p5 → rC A5 n l b p5 → rM B5 n l b p5 → G0 < 2 ^ (nm + 1) → qG (fun x k => x = 65 ∧ 5 ≤ k ∧ k ≤ 10 ∨ x = 139 ∧ k = 9) A4 A5 → qG (fun x k => x = 192 ∧ (5 ≤ k ∧ k ≤ 9 ∨ k = 12) ∨ x = 195 ∧ k = 4) B4' B5 → A5.1 139 9 = nI G0 → B5.1 195 4 = nI G0 → (∀ u, qa_lm (qe (d + 5)) (qa_cd qc_32) (122, [.ref 139, .ref 65], [], (qb_hp (qj A4 u), 149, c)) = qa_lm (qe (d + 5)) (qa_cd qc_32) (151, [.ref 139, .ref 65], [], (qb_hp (qj A5 u), 149, c))) → (∀ u, qa_lm (qe (d' + 6)) (qa_cd qc_184) (85, [.ref 192, .int (nI nm)], [], (qb_hp (qj u B4'), 149, c)) = qa_lm (qe (d' + 6)) (qa_cd qc_184) (110, [.ref 192, .int (nI nm)], [], (qb_hp (qj u B5), 149, c))) → ∃ M' r, (∀ u, qe (d + 6) 32 [.ref 139, .ref 65] (qb_hp (qj M u), 149, c) = some (some (.int (r)), (qb_hp (qj M' u), 149, c))) ∧ (∀ u, qe (d' + 7) 184 [.ref 192] (qb_hp (qj u M), 149, c) = some (some (.int (r)), (qb_hp (qj u M'), 149, c))) ∧ rO bF bG n l b p M M' r bE := by
            intro A5 B5 p5 G0 hp5 rA rB hG0 sA sB gA9 gB4' wA wB
            have gA5 : qG (fun x k => x = 65 ∧ 5 ≤ k ∧ k ≤ 10 ∨ (x = 140 ∨ x = 141 ∨ x = 142) ∧ k = nm ∨ x = 139 ∧ (k = 6 ∨ k = 9)) M (qb_ui A5 139 6 (nI (nm + 1))) := ((gA4.mo (fun x k h => by omega)).tr (sA.mo (fun x k h => by omega))).ui (by omega)
            have gB5 : qG (fun x k => x = 192 ∧ (5 ≤ k ∧ k ≤ 9 ∨ k = 12 ∨ k = 13) ∨ x = 200 ∧ k = nm ∨ x = 195 ∧ (k = 5 + nm ∨ k = 15 + nm ∨ k = 1 ∨ k = 4)) M (qb_ui B5 195 1 (nI (nm + 1))) := ((gB4.mo (fun x k h => by omega)).tr (sB.mo (fun x k h => by omega))).ui (by omega)
            refine bo_good (A := qb_ui A5 139 6 (nI (nm + 1))) (B := qb_ui B5 195 1 (nI (nm + 1))) (p' := p5) (P1 := fun x k => x = 65 ∧ 5 ≤ k ∧ k ≤ 10 ∨ (x = 140 ∨ x = 141 ∨ x = 142) ∧ k = nm ∨ x = 139 ∧ (k = 6 ∨ k = 9)) (Q1 := fun x k => x = 192 ∧ (5 ≤ k ∧ k ≤ 9 ∨ k = 12 ∨ k = 13) ∨ x = 200 ∧ k = nm ∨ x = 195 ∧ (k = 5 + nm ∨ k = 15 + nm ∨ k = 1 ∨ k = 4)) (fun u => c4 u _ ((wA u).trans ?_)) (fun u => m4 u _ ((wB u).trans ?_)) (by omega) (rA.mv (P := fun x k => x = 139) (qG.rf.ui rfl) (fun x k h => by omega)) (rB.mv (P := fun x k => x = 195) (qG.rf.ui rfl) (fun x k h => by omega)) ?_ gA5 gB5 (fun x j h => by unfold bF; omega)
            · refine go_ald_2_0 rfl ?_
              refine go_dup_ref rfl ?_
              refine go_geti rfl ⟨_, rfl, rfl, by decide, by decide⟩ ?_
              refine go_c rfl ?_
              rw [show (qj A5 u).1 139 6 = nI nm from (sA.i (by omega)).trans ((gA4.i (by omega)).trans z2)]
              refine go_iadd rfl ?_
              rw [nI_1]
              refine go_puti rfl ⟨_, rfl, rfl, by decide, by decide⟩ rfl rfl ?_
              rw [qj_ui (by decide)]
              refine go_c rfl ?_
              exact fin_i rfl rfl rfl
            · refine go_ald_2_0 rfl ?_
              refine go_getr rfl ⟨_, rfl, rfl, by decide, by decide⟩ ?_
              refine go_c rfl ?_
              refine go_dup2 rfl ?_
              refine go_iald (j := 1) rfl ⟨rfl, by decide, by decide, by decide⟩ rfl (by decide) ?_
              rw [show (qj u B5).1 195 1 = nI nm from (sB.i (by omega)).trans ((gB4.i (by omega)).trans y2)]
              refine go_c rfl ?_
              refine go_iadd rfl ?_
              rw [nI_1]
              refine go_iast (j := 1) rfl ⟨rfl, by decide, by decide, by decide⟩ rfl (by decide) ?_
              rw [qj_UI (by decide)]
              refine go_c rfl ?_
              exact fin_i rfl rfl rfl
            · have gJ := qj_G gA5 gB5
              obtain ⟨lo', hlo1, hlo2⟩ : ∃ lo' : Nat → Nat, lo' nm = x1 ∧ ∀ k, k ≠ nm → lo' k = lo k := ⟨fun k => if k = nm then x1 else lo k, if_pos rfl, fun k h => if_neg h⟩
              obtain ⟨hi', hhi1, hhi2⟩ : ∃ hi' : Nat → Nat, hi' nm = x2 ∧ ∀ k, k ≠ nm → hi' k = hi k := ⟨fun k => if k = nm then x2 else hi k, if_pos rfl, fun k h => if_neg h⟩
              refine ⟨nw, nm + 1, ns, V, G0, lo', hi', se, wt, vt, ⟨⟨z0.1, z0.2.1, by omega, z0.2.2.2.1, z0.2.2.2.2.1, hG0⟩, ⟨(gJ.i (by omega)).trans z1, ?_, (gJ.i (by omega)).trans z3, (gJ.i (by omega)).trans z4, ?_⟩, ⟨(gJ.i (by omega)).trans y1, ?_, (gJ.i (by omega)).trans y3, (gJ.i (by omega)).trans y4, ?_⟩, fun k hk => ?_, fun k hk => ?_⟩, ⟨(gJ.i (by omega)).trans w1, (gJ.i (by omega)).trans w2⟩, (gJ.i (by omega)).trans v1, (gJ.i (by omega)).trans v2⟩
              · show (qb_ui A5 139 6 (nI (nm + 1))).1 139 6 = _
                exact qb_ui_1s
              · show (qb_ui A5 139 6 (nI (nm + 1))).1 139 9 = _
                exact (qb_ui_1n (Or.inr (by decide))).trans gA9
              · show (qb_ui B5 195 1 (nI (nm + 1))).1 195 1 = _
                exact qb_ui_1s
              · show (qb_ui B5 195 1 (nI (nm + 1))).1 195 4 = _
                exact (qb_ui_1n (Or.inr (by decide))).trans gB4'
              · by_cases e : k = nm
                · subst e
                  rw [hlo1, hhi1, Nat.zero_add, Nat.zero_add, Nat.zero_add]
                  refine ⟨⟨by omega, by omega⟩, ⟨?_, ?_⟩, ⟨?_, ?_⟩, tx_l n b p1, hok, ?_, ?_⟩
                  · show (qb_ui A5 139 6 (nI (k + 1))).1 140 k = _
                    exact (qb_ui_1n (Or.inl (by decide))).trans ((sA.i (by omega)).trans l4)
                  · show (qb_ui A5 139 6 (nI (k + 1))).1 141 k = _
                    exact (qb_ui_1n (Or.inl (by decide))).trans ((sA.i (by omega)).trans r4)
                  · show (qb_ui B5 195 1 (nI (k + 1))).1 195 (5 + k) = _
                    exact (qb_ui_1n (Or.inr (by omega))).trans ((sB.i (by omega)).trans ml4)
                  · show (qb_ui B5 195 1 (nI (k + 1))).1 195 (15 + k) = _
                    exact (qb_ui_1n (Or.inr (by omega))).trans ((sB.i (by omega)).trans mr4)
                  · show A5.2.1 142 k = _
                    exact (sA.l (by omega)).trans n4
                  · show B5.2.1 200 k = _
                    exact (sB.l (by omega)).trans mn4
                · rw [hlo2 k e, hhi2 k e, gJ.i (by omega), gJ.i (by omega), gJ.i (by omega), gJ.i (by omega), gJ.l (by omega), gJ.l (by omega)]
                  exact z6 k (by omega)
              · rw [gJ.i (by omega), gJ.i (by omega), gJ.l (by omega), gJ.l (by omega)]
                have := z7 k hk
                exact ⟨by omega, this.2⟩
          have hF2 : F0 < 2 ^ nm := z0.2.2.2.2.2
          have hpow : 2 ^ (nm + 1) = 2 * 2 ^ nm := by rw [Nat.pow_succ, Nat.mul_comm]
          by_cases hch : tx_k n l b p4 = 2 ∧ tx_wd (tx_l n b p4) = some 2
          · obtain ⟨A5, s1, s2, s3⟩ := pc_step (d + 2) c (q2.mv (P := fun x k => x = 139 ∧ k = 9) (N := qb_ui A4 139 9 (nI (F0 ||| 2 ^ nm))) (qG.rf.ui ⟨rfl, rfl⟩) (fun x k h => by omega))
            obtain ⟨B5, t1, t2, t3⟩ := pm_go (d' + 3) c (i3'.mv (P := fun x k => x = 195) (N := qb_ui B4' 195 4 (nI (F0 ||| 2 ^ nm))) (qG.rf.ui rfl) (fun x k h => by omega))
            have hpe4 := tx_e_lt q2.1 (by omega) (by omega : tx_k n l b p4 ≠ 1)
            refine last A5 B5 (tx_e n l b p4) (F0 ||| 2 ^ nm) (by omega) s2 t2 (by rw [qm_or_pow hF2]; omega) ((qG.rf.ui (by omega)).tr (s3.mo (fun x k h => by omega))) ((qG.rf.ui (by omega)).tr (t3.mo (fun x k h => by omega))) ((s3.i (by omega)).trans qb_ui_1s) ((t3.i (by omega)).trans qb_ui_1s) (fun u => ?_) (fun u => ?_)
            · refine go_ald_2_1 rfl ?_
              refine go_c rfl ?_
              refine go_call2 rfl (pc_isAt (d + 4) c q2 2 (by decide) u) (Nat.le_of_ble_eq_true rfl) (qb_qv rfl (by decide) (by decide)) ?_
              refine go_ifeq rfl (fun e => ?_) (fun e => ?_)
              · exact absurd hch (qB_0.mp e)
              · refine go_ald_2_0 rfl ?_
                refine go_dup_ref rfl ?_
                refine go_geti rfl ⟨_, rfl, rfl, by decide, by decide⟩ ?_
                refine go_c rfl ?_
                refine go_ald_2_0 rfl ?_
                refine go_geti rfl ⟨_, rfl, rfl, by decide, by decide⟩ ?_
                rw [show (qj A4 u).1 139 9 = nI F0 from (gA4.i (by omega)).trans z5, show (qj A4 u).1 139 6 = nI nm from (gA4.i (by omega)).trans z2]
                refine go_ishl rfl ?_
                rw [qx_1shl nm (by omega)]
                refine go_ior rfl ?_
                rw [fa_or]
                refine go_puti rfl ⟨_, rfl, rfl, by decide, by decide⟩ rfl rfl ?_
                rw [qj_ui (by decide)]
                refine go_ald_2_1 rfl ?_
                refine go_call1 rfl (s1 u) (Nat.le_of_ble_eq_true rfl) (qb_qv rfl (by decide) (by decide)) ?_
                rfl
            · have hw := pm_isWord (d' + 3) c i3' 15 (by decide) u
              refine go_ald_2_0 rfl ?_
              refine go_c rfl ?_
              refine go_call2 rfl (hw) (Nat.le_of_ble_eq_true rfl) (qb_qv rfl (by decide) (by decide)) ?_
              refine go_ifeq rfl (fun e => ?_) (fun e => ?_)
              · exact absurd hch (qB_0.mp e)
              · refine go_ald_2_0 rfl ?_
                refine go_getr rfl ⟨_, rfl, rfl, by decide, by decide⟩ ?_
                refine go_c rfl ?_
                refine go_dup2 rfl ?_
                refine go_iald (j := 4) rfl ⟨rfl, by decide, by decide, by decide⟩ rfl (by decide) ?_
                rw [show (qj u B4').1 195 4 = nI F0 from (gB4.i (by omega)).trans y5]
                refine go_c rfl ?_
                refine go_ild_2_1 rfl ?_
                refine go_ishl rfl ?_
                rw [qx_1shl nm (by omega)]
                refine go_ior rfl ?_
                rw [fa_or]
                refine go_iast (j := 4) rfl ⟨rfl, by decide, by decide, by decide⟩ rfl (by decide) ?_
                rw [qj_UI (by decide)]
                refine go_ald_2_0 rfl ?_
                refine go_call1 rfl (t1 u) (Nat.le_of_ble_eq_true rfl) (qb_qv rfl (by decide) (by decide)) ?_
                rfl
          · refine last A4 B4' p4 F0 (Nat.le_refl _) q2 i3' (by omega) qG.rf qG.rf ((gA4.i (by omega)).trans z5) ((gB4.i (by omega)).trans y5) (fun u => ?_) (fun u => ?_)
            · refine go_ald_2_1 rfl ?_
              refine go_c rfl ?_
              refine go_call2 rfl (pc_isAt (d + 4) c q2 2 (by decide) u) (Nat.le_of_ble_eq_true rfl) (qb_qv rfl (by decide) (by decide)) ?_
              refine go_ifeq rfl (fun e => ?_) (fun e => ?_)
              · rfl
              · exact absurd (qB_f hch) e
            · have hw := pm_isWord (d' + 3) c i3' 15 (by decide) u
              refine go_ald_2_0 rfl ?_
              refine go_c rfl ?_
              refine go_call2 rfl (hw) (Nat.le_of_ble_eq_true rfl) (qb_qv rfl (by decide) (by decide)) ?_
              refine go_ifeq rfl (fun e => ?_) (fun e => ?_)
              · rfl
              · exact absurd (qB_f hch) e
        · refine bo_fail (A := A3) (B := qb_ui B3 195 (5 + nm) (nI x1)) (f := f) (pl := tx_p n l b p3) (P1 := fun x k => x = 65 ∧ 5 ≤ k ∧ k ≤ 10 ∨ (x = 140 ∨ x = 142) ∧ k = nm) (Q1 := fun x k => x = 192 ∧ (5 ≤ k ∧ k ≤ 9 ∨ k = 12 ∨ k = 13) ∨ x = 200 ∧ k = nm ∨ x = 195 ∧ k = 5 + nm) (fun u => c3 u _ ?_) (fun u => m3 u _ ?_) (tx_p9 o2) gA3 gB3 (fun x j h => by unfold bG bF; omega)
          · refine go_ald_2_1 rfl ?_
            refine go_ald_2_0 rfl ?_
            refine go_getr rfl ⟨_, rfl, rfl, by decide, by decide⟩ ?_
            refine go_ald_2_0 rfl ?_
            refine go_geti rfl ⟨_, rfl, rfl, by decide, by decide⟩ ?_
            rw [show (qj A3 u).1 139 6 = nI nm from (gA3.i (by omega)).trans z2]
            refine go_iald (j := nm) rfl (⟨rfl, by decide, by decide, by decide⟩) (rfl) (by omega) ?_
            rw [show (qj A3 u).1 140 nm = nI x1 from l3]
            refine go_c rfl ?_
            refine go_iadd rfl ?_
            rw [nI_1]
            refine go_ald_2_0 rfl ?_
            refine go_geti rfl ⟨_, rfl, rfl, by decide, by decide⟩ ?_
            refine go_c rfl ?_
            refine go_isub rfl ?_
            rw [show (qj A3 u).1 139 5 = nI nw from (gA3.i (by omega)).trans z1, hnw1]
            refine go_call3 rfl (i1 u) (Nat.le_of_ble_eq_true rfl) (qb_qv rfl (by decide) (by decide)) ?_
            refine go_ifne rfl (fun e => ?_) (fun e => ?_)
            · refine go_c rfl ?_
              exact fin_i rfl rfl rfl
            · exact absurd rfl e
          · refine go_ald_2_0 rfl ?_
            refine go_c rfl ?_
            refine go_ild_2_1 rfl ?_
            refine go_iadd rfl ?_
            rw [show (15 : Int32) = nI 15 from rfl, nI_add]
            refine go_ald_2_0 rfl ?_
            refine go_ald_2_0 rfl ?_
            refine go_getr rfl ⟨_, rfl, rfl, by decide, by decide⟩ ?_
            refine go_c rfl ?_
            refine go_ild_2_1 rfl ?_
            refine go_iadd rfl ?_
            rw [show (5 : Int32) = nI 5 from rfl, nI_add]
            refine go_iald (j := 5 + nm) rfl (⟨rfl, by decide, by decide, by decide⟩) (rfl) (by omega) ?_
            rw [show (qj u (qb_ui B3 195 (5 + nm) (nI x1))).1 195 (5 + nm) = nI x1 from qb_ui_1s]
            refine go_c rfl ?_
            refine go_iadd rfl ?_
            rw [nI_1]
            refine go_ald_2_0 rfl ?_
            refine go_getr rfl ⟨_, rfl, rfl, by decide, by decide⟩ ?_
            refine go_c rfl ?_
            refine go_iald (j := 0) rfl ⟨rfl, by decide, by decide, by decide⟩ rfl (by decide) ?_
            refine go_c rfl ?_
            refine go_isub rfl ?_
            rw [show (qj u (qb_ui B3 195 (5 + nm) (nI x1))).1 195 0 = nI nw from (gB3.i (by omega)).trans y1, hnw1]
            refine go_call3 rfl (i2 u) (Nat.le_of_ble_eq_true rfl) (qb_qv rfl (by decide) (by decide)) ?_
            refine go_call3 rfl (pm_put0 (d' + 5) _ c _) (Nat.le_of_ble_eq_true rfl) (qb_qv rfl (by decide) (by decide)) ?_
            refine go_ifne rfl (fun e => ?_) (fun e => ?_)
            · refine go_c rfl ?_
              exact fin_i rfl rfl rfl
            · exact absurd rfl e
      · refine bo_fail (A := A2) (B := B2) (f := f) (pl := tx_p n l b p2) (P1 := fun x k => x = 65 ∧ 5 ≤ k ∧ k ≤ 10 ∨ x = 142 ∧ k = nm) (Q1 := fun x k => x = 192 ∧ (5 ≤ k ∧ k ≤ 9 ∨ k = 12 ∨ k = 13) ∨ x = 200 ∧ k = nm) (fun u => c2 u _ ?_) (fun u => m2 u _ ?_) (tx_p9 e2) gA2 gB2 (fun x j h => by unfold bG bF; omega)
        · refine go_ald_2_1 rfl ?_
          refine go_c rfl ?_
          refine go_ald_2_0 rfl ?_
          refine go_geti rfl ⟨_, rfl, rfl, by decide, by decide⟩ ?_
          refine go_c rfl ?_
          refine go_isub rfl ?_
          rw [show (qj A2 u).1 139 5 = nI nw from (gA2.i (by omega)).trans z1, hnw1]
          refine go_call3 rfl (f1 u) (Nat.le_of_ble_eq_true rfl) (qb_qv rfl (by decide) (by decide)) ?_
          refine go_ifne rfl (fun e => ?_) (fun e => ?_)
          · refine go_c rfl ?_
            exact fin_i rfl rfl rfl
          · exact absurd rfl e
        · refine go_ald_2_0 rfl ?_
          refine go_c rfl ?_
          refine go_ild_2_1 rfl ?_
          refine go_iadd rfl ?_
          rw [show (5 : Int32) = nI 5 from rfl, nI_add]
          refine go_ald_2_0 rfl ?_
          refine go_c rfl ?_
          refine go_ald_2_0 rfl ?_
          refine go_getr rfl ⟨_, rfl, rfl, by decide, by decide⟩ ?_
          refine go_c rfl ?_
          refine go_iald (j := 0) rfl ⟨rfl, by decide, by decide, by decide⟩ rfl (by decide) ?_
          refine go_c rfl ?_
          refine go_isub rfl ?_
          rw [show (qj u B2).1 195 0 = nI nw from (gB2.i (by omega)).trans y1, hnw1]
          refine go_call3 rfl (f2 u) (Nat.le_of_ble_eq_true rfl) (qb_qv rfl (by decide) (by decide)) ?_
          refine go_call3 rfl (pm_put0 (d' + 5) _ c _) (Nat.le_of_ble_eq_true rfl) (qb_qv rfl (by decide) (by decide)) ?_
          refine go_ifeq rfl (fun e => ?_) (fun e => ?_)
          · refine go_c rfl ?_
            exact fin_i rfl rfl rfl
          · exact absurd rfl e
    · refine bo_fail (A := A1) (B := B1) (f := f) (pl := tx_p n l b p1) (P1 := bF) (Q1 := bF) (fun u => c1 u _ ?_) (fun u => m1 u _ ?_) (tx_p9 a2) (a3.mo (fun x k h => bF_C h)) (b3.mo (fun x k h => bF_M h)) (fun x j h => bG_of h)
      · refine go_ald_2_0 rfl ?_
        refine go_ald_2_1 rfl ?_
        refine go_call2 rfl (g1 u) (Nat.le_of_ble_eq_true rfl) (qb_qv rfl (by decide) (by decide)) ?_
        refine go_ifne rfl (fun e => ?_) (fun e => ?_)
        · refine go_c rfl ?_
          exact fin_i rfl rfl rfl
        · exact absurd rfl e
      · refine go_ald_2_0 rfl ?_
        refine go_ild_2_1 rfl ?_
        refine go_call2 rfl (g2 u) (Nat.le_of_ble_eq_true rfl) (qb_qv rfl (by decide) (by decide)) ?_
        refine go_ifeq rfl (fun e => ?_) (fun e => ?_)
        · refine go_c rfl ?_
          exact fin_i rfl rfl rfl
        · exact absurd rfl e
