/-! a one with a sister's name -/
theorem sn_sister (d d' g0 : Nat) (c : Nat × Nat) {A B : qb_M} {n l : Nat} {b : Nat → Nat} {p : Nat} (hC : rC A n l b p) (hM : rM B n l b p) {a ns : Nat} (ha : a < 40) (h4 : A.1 150 4 = nI a) (h41 : B.1 192 41 = nI a) (hN : wN A B ns) : (tx_k n l b p = 2 ∧ ∃ v A' B1 B', (∀ u, qe (d + 6) 147 [.ref 150, .ref 65, .ref 67] (qb_hp (qj A u), 149, c) = some (some (.int (1)), (qb_hp (qj A' u), 149, c))) ∧ (∀ u, qe (d' + 5) 274 [.ref 192, .int (nI 10), .int (nI ns)] (qb_hp (qj u B), 149, c) = some (some (.int (1)), (qb_hp (qj u B1), 149, c))) ∧ B1.1 192 13 = nI v ∧ (∀ u, qe (g0 + 1) 284 [.ref 192, .int 68, .int (nI v), .int 0, .int 0] (qb_hp (qj u B1), 149, c) = some (some (.int (nI a)), (qb_hp (qj u B'), 149, c))) ∧ wC A B A' (qb_ui B' 192 44 (nI a)) a ns n l b (tx_e n l b p)) ∨ ∃ f B', qG (fun x k => x = 192 ∧ k = 13) B B' ∧ (∀ u, qe (d + 6) 147 [.ref 150, .ref 65, .ref 67] (qb_hp (qj A u), 149, c) = some (some (.int (0)), (qb_hp (qj (fC A f (tx_p n l b p)) u), 149, c))) ∧ ∀ u, qe (d' + 5) 274 [.ref 192, .int (nI 10), .int (nI ns)] (qb_hp (qj u B), 149, c) = some (some (.int (0)), (qb_hp (qj u (fM B' f (tx_p n l b p))), 149, c)) := by
  obtain ⟨n7, n2, n5, nn⟩ := hN
  have hv : ∀ (s : qb_M) (As : List Value), qv_o 4 (qb_hp s, 149, c) (.ref 67 :: As) = true := fun s As => qb_qv qP_67.1 qP_67.2.2.1 qP_67.2.2.2
  by_cases hnm : tx_k n l b p = 2 ∧ tx_wd (tx_l n b p) = none
  · have hok := tx_l_ok hC.1 hnm.1
    have hL9 : ∀ u, (qj A u).2.1 65 9 = lN (qn_32 (tx_l n b p)) := fun u => (hC.2.2.2.2.2.1 hnm.1).1
    have hW : ∀ u, (qj u B).2.1 192 12 = lN (qn_27 (tx_l n b p)) := fun u => hM.2.2.2.2.2.2.1 hnm.1
    have i1 : tx_ix (A.2.1 71) ns (lN (qn_32 (tx_l n b p))) = tx_ix (fun k => B.2.1 199 (10 + k)) ns (lN (qn_27 (tx_l n b p))) := tx_ix_cong (fun k hk => qn_same (nn k hk) hok)
    have cS : ∀ u, qe (d + 4) 37 [.ref 67, .long (lN (qn_32 (tx_l n b p)))] (qb_hp (qj A u), 149, c) = some (some (.int (tx_ix (A.2.1 71) ns (lN (qn_32 (tx_l n b p))))), (qb_hp (qj A u), 149, c)) := fun u => sp_sisterNamed (d + 2) (qj A u) c qP_67 (show (qj A u).1 67 7 = nI ns from n7) n5 _
    have cT : ∀ u, qe (d + 5) 37 [.ref 67, .long (lN (qn_32 (tx_l n b p)))] (qb_hp (qj A u), 149, c) = some (some (.int (tx_ix (A.2.1 71) ns (lN (qn_32 (tx_l n b p))))), (qb_hp (qj A u), 149, c)) := fun u => sp_sisterNamed (d + 3) (qj A u) c qP_67 (show (qj A u).1 67 7 = nI ns from n7) n5 _
    have mS : ∀ u, qe (d' + 4) 188 [.ref 199, .int (nI 10), .int (nI ns), .long (lN (qn_27 (tx_l n b p)))] (qb_hp (qj u B), 149, c) = some (some (.int (tx_ix (fun k => B.2.1 199 (10 + k)) ns (lN (qn_27 (tx_l n b p))))), (qb_hp (qj u B), 149, c)) := fun u => sp_findIn (d' + 3) (qj u B) c (a := 199) (N := 15) ⟨rfl, by decide, by decide, by decide⟩ (by omega) _
    rw [← i1] at mS
    have ho : tx_ix (A.2.1 71) ns (lN (qn_32 (tx_l n b p))) = -1 ∨ ∃ z, z < ns ∧ tx_ix (A.2.1 71) ns (lN (qn_32 (tx_l n b p))) = nI z := tx_ix_or
    generalize tx_ix (A.2.1 71) ns (lN (qn_32 (tx_l n b p))) = I1 at cS cT mS ho
    have enM : ∀ u R, qa_lm (qe (d' + 4)) (qa_cd qc_274) (30, [.ref 192, .int (nI 10), .int (nI ns)], [], (qb_hp (qj u (qb_ui B 192 13 I1)), 149, c)) = R → qe (d' + 5) 274 [.ref 192, .int (nI 10), .int (nI ns)] (qb_hp (qj u B), 149, c) = R := fun u R hR => by
      refine (en_274 (d' + 4) 192 (nI 10) (nI ns) _).trans ?_
      refine go_ald_3_0 rfl ?_
      refine go_call1 rfl (pm_isName (d' + 1) c hM u) (Nat.le_of_ble_eq_true rfl) (qb_qv rfl (by decide) (by decide)) ?_
      refine go_ifne rfl (fun e => ?_) (fun e => ?_)
      · exact absurd hnm (qB_0.mp e)
      · refine go_ald_3_0 rfl ?_
        refine go_ald_3_0 rfl ?_
        refine go_getr rfl ⟨_, rfl, rfl, by decide, by decide⟩ ?_
        refine go_ild_3_1 rfl ?_
        refine go_ild_3_2 rfl ?_
        refine go_ald_3_0 rfl ?_
        refine go_getl rfl ⟨_, rfl, rfl, by decide, by decide⟩ ?_
        rw [hW]
        refine go_call4 rfl (mS u) (Nat.le_of_ble_eq_true rfl) rfl ?_
        refine go_puti rfl ⟨_, rfl, rfl, by decide, by decide⟩ rfl rfl ?_
        rw [qj_UI (by decide)]
        exact hR
    have enI : ∀ u R, qa_lm (qe (d + 4)) (qa_cd qc_148) (22, [.ref 67, .ref 65], [], (qb_hp (qj A u), 149, c)) = qa_lm (qe (d + 4)) (qa_cd qc_148) (22, [.ref 67, .ref 65], [], (qb_hp (qj A u), 149, c)) → (I1 = -1 → qa_lm (qe (d + 4)) (qa_cd qc_148) (25, [.ref 67, .ref 65], [], (qb_hp (qj A u), 149, c)) = R) → (I1 ≠ -1 → qa_lm (qe (d + 4)) (qa_cd qc_148) (33, [.ref 67, .ref 65], [], (qb_hp (qj A u), 149, c)) = R) → qe (d + 5) 148 [.ref 67, .ref 65] (qb_hp (qj A u), 149, c) = R := fun u R _ g1 g2 => by
      refine (en_148 (d + 4) 67 65 _).trans ?_
      refine go_ald_2_1 rfl ?_
      refine go_call1 rfl (pc_isAtName (d + 3) c hC u) (Nat.le_of_ble_eq_true rfl) (qb_qv rfl (by decide) (by decide)) ?_
      refine go_ifne rfl (fun e => ?_) (fun e => ?_)
      · exact absurd hnm (qB_0.mp e)
      · refine go_ald_2_0 rfl ?_
        refine go_ald_2_1 rfl ?_
        refine go_getl rfl ⟨_, rfl, rfl, by decide, by decide⟩ ?_
        rw [hL9]
        refine go_call2 rfl (cS u) (Nat.le_of_ble_eq_true rfl) (hv _ _) ?_
        refine go_c rfl ?_
        refine go_icne rfl (fun e2 => ?_) (fun e2 => ?_)
        · exact g1 e2
        · exact g2 e2
    rcases ho with hI | ⟨z, hz, hI⟩
    · subst hI
      refine Or.inr ⟨3, qb_ui B 192 13 (-1), qG.rf.ui (by omega), fun u => ?_, fun u => enM u _ ?_⟩
      · have hi : qe (d + 5) 148 [.ref 67, .ref 65] (qb_hp (qj A u), 149, c) = some (some (.int (0)), (qb_hp (qj (fC A 3 (tx_p n l b p)) u), 149, c)) := enI u _ rfl (fun _ => by
          refine go_ald_2_1 rfl ?_
          refine go_c rfl ?_
          refine go_call2 rfl (pc_fail (d + 3) c hC 3 u) (Nat.le_of_ble_eq_true rfl) (qb_qv rfl (by decide) (by decide)) ?_
          refine go_ifeq rfl (fun e => ?_) (fun e => ?_)
          · refine go_c rfl ?_
            exact fin_i rfl rfl rfl
          · exact absurd rfl e) (fun z => absurd rfl z)
        refine (en_147 (d + 5) 150 65 67 _).trans ?_
        refine go_ald_4_2 rfl ?_
        refine go_ald_4_1 rfl ?_
        refine go_call2 rfl (hi) (Nat.le_of_ble_eq_true rfl) (hv _ _) ?_
        refine go_ifne rfl (fun e => ?_) (fun e => ?_)
        · refine go_c rfl ?_
          exact fin_i rfl rfl rfl
        · exact absurd rfl e
      · have hb := pm_bad (d' + 3) c (hM.mv (P := fun x k => x = 192 ∧ k = 13) (N := qb_ui B 192 13 (-1)) (qG.rf.ui ⟨rfl, rfl⟩) (fun x k h => by omega)) 3 u
        rw [if_neg (by omega)] at hb
        refine go_ald_3_0 rfl ?_
        refine go_geti rfl ⟨_, rfl, rfl, by decide, by decide⟩ ?_
        rw [show (qj u (qb_ui B 192 13 (-1))).1 192 13 = -1 from (qj_I (by decide)).trans qb_ui_1s]
        refine go_c rfl ?_
        refine go_icne rfl (fun e => ?_) (fun e => ?_)
        · refine go_ald_3_0 rfl ?_
          refine go_c rfl ?_
          refine go_call2 rfl (hb) (Nat.le_of_ble_eq_true rfl) (qb_qv rfl (by decide) (by decide)) ?_
          exact fin_i rfl rfl rfl
        · exact absurd rfl e
    · have hI1 : I1 ≠ -1 := by rw [hI]; exact nI_m1 (by omega)
      subst hI
      obtain ⟨A1, e1, e2, e3⟩ := pc_step (d + 2) c hC
      obtain ⟨B1, m1, m2, m3⟩ := pm_go (d' + 1) c (hM.mv (P := fun x k => x = 192 ∧ k = 13) (N := qb_ui B 192 13 (nI z)) (qG.rf.ui ⟨rfl, rfl⟩) (fun x k h => by omega))
      have b13 : B1.1 192 13 = nI z := (m3.i (by omega)).trans qb_ui_1s
      have gB1 : qG (fun x k => x = 192 ∧ (5 ≤ k ∧ k ≤ 9 ∨ k = 12 ∨ k = 13)) B B1 := (qG.rf.ui (by omega)).tr (m3.mo (fun x k h => by omega))
      obtain ⟨A', B', q1, q2, q3, q4, q5, q6, q7, q8, q9, q10⟩ := sn_leaf (d + 4) g0 c e2 m2 (ns := ns) (w := 18) (sg := 0) (v := nI z) (x1 := 68) (x2 := nI z) (x3 := 0) (x4 := 0) ha ((e3.i (by omega)).trans h4) ((gB1.i (by omega)).trans h41) (Or.inr (Or.inl ⟨z, rfl, rfl, hz, rfl, rfl⟩))
      refine Or.inl ⟨hnm.1, z, A', B1, B', fun u => ?_, fun u => enM u _ ?_, b13, q2, q3, q4, q5, q6, q7, q8, (e3.mo (fun x k h => by omega)).tr (q9.mo (fun x k h => by omega)), (gB1.mo (fun x k h => by omega)).tr (q10.mo (fun x k h => by omega))⟩
      · have hi : qe (d + 5) 148 [.ref 67, .ref 65] (qb_hp (qj A u), 149, c) = some (some (.int (1)), (qb_hp (qj A u), 149, c)) := enI u _ rfl (fun z => absurd z hI1) (fun _ => by
          refine go_c rfl ?_
          refine go_goto rfl ?_
          exact fin_i rfl rfl rfl)
        refine (en_147 (d + 5) 150 65 67 _).trans ?_
        refine go_ald_4_2 rfl ?_
        refine go_ald_4_1 rfl ?_
        refine go_call2 rfl (hi) (Nat.le_of_ble_eq_true rfl) (hv _ _) ?_
        refine go_ifne rfl (fun e => ?_) (fun e => ?_)
        · exact absurd e (by decide)
        · refine go_ald_4_2 rfl ?_
          refine go_ald_4_1 rfl ?_
          refine go_getl rfl ⟨_, rfl, rfl, by decide, by decide⟩ ?_
          rw [hL9]
          refine go_call2 rfl (cT u) (Nat.le_of_ble_eq_true rfl) (hv _ _) ?_
          refine go_ist_4_3 rfl rfl ?_
          refine go_ald_4_1 rfl ?_
          refine go_call1 rfl (e1 u) (Nat.le_of_ble_eq_true rfl) (qb_qv rfl (by decide) (by decide)) ?_
          refine go_ald_4_0 rfl ?_
          refine go_c rfl ?_
          refine go_c rfl ?_
          refine go_ild_4_3 rfl ?_
          refine go_call4 rfl (q1 u) (Nat.le_of_ble_eq_true rfl) (qb_qv rfl (by decide) (by decide)) ?_
          exact fin_i rfl rfl rfl
      · refine go_ald_3_0 rfl ?_
        refine go_geti rfl ⟨_, rfl, rfl, by decide, by decide⟩ ?_
        rw [show (qj u (qb_ui B 192 13 (nI z))).1 192 13 = nI z from (qj_I (by decide)).trans qb_ui_1s]
        refine go_c rfl ?_
        refine go_icne rfl (fun e => ?_) (fun e => ?_)
        · exact absurd e hI1
        · refine go_ald_3_0 rfl ?_
          refine go_call1 rfl (m1 u) (Nat.le_of_ble_eq_true rfl) (qb_qv rfl (by decide) (by decide)) ?_
          refine go_c rfl ?_
          exact fin_i rfl rfl rfl
  · refine Or.inr ⟨1, B, qG.rf, fun u => ?_, fun u => ?_⟩
    · have hi : qe (d + 5) 148 [.ref 67, .ref 65] (qb_hp (qj A u), 149, c) = some (some (.int (0)), (qb_hp (qj (fC A 1 (tx_p n l b p)) u), 149, c)) := by
        refine (en_148 (d + 4) 67 65 _).trans ?_
        refine go_ald_2_1 rfl ?_
        refine go_call1 rfl (pc_isAtName (d + 3) c hC u) (Nat.le_of_ble_eq_true rfl) (qb_qv rfl (by decide) (by decide)) ?_
        refine go_ifne rfl (fun e => ?_) (fun e => ?_)
        · refine go_ald_2_1 rfl ?_
          refine go_c rfl ?_
          refine go_call2 rfl (pc_fail (d + 3) c hC 1 u) (Nat.le_of_ble_eq_true rfl) (qb_qv rfl (by decide) (by decide)) ?_
          exact fin_i rfl rfl rfl
        · exact absurd (qB_f hnm) e
      refine (en_147 (d + 5) 150 65 67 _).trans ?_
      refine go_ald_4_2 rfl ?_
      refine go_ald_4_1 rfl ?_
      refine go_call2 rfl (hi) (Nat.le_of_ble_eq_true rfl) (hv _ _) ?_
      refine go_ifne rfl (fun e => ?_) (fun e => ?_)
      · refine go_c rfl ?_
        exact fin_i rfl rfl rfl
      · exact absurd rfl e
    · have hb := pm_bad (d' + 3) c hM 1 u
      rw [ite_self] at hb
      refine (en_274 (d' + 4) 192 (nI 10) (nI ns) _).trans ?_
      refine go_ald_3_0 rfl ?_
      refine go_call1 rfl (pm_isName (d' + 1) c hM u) (Nat.le_of_ble_eq_true rfl) (qb_qv rfl (by decide) (by decide)) ?_
      refine go_ifne rfl (fun e => ?_) (fun e => ?_)
      · refine go_ald_3_0 rfl ?_
        refine go_c rfl ?_
        refine go_call2 rfl (hb) (Nat.le_of_ble_eq_true rfl) (qb_qv rfl (by decide) (by decide)) ?_
        exact fin_i rfl rfl rfl
      · exact absurd (qB_f hnm) e
