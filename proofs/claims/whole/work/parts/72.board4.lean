/-! a board's lines: a sister; all lines -/
theorem pc_isSwitchName (d : Nat) (c : Nat × Nat) {A : qb_M} {n l : Nat} {b : Nat → Nat} {p : Nat} (hC : rC A n l b p) {a nm : Nat} (hP : qP_sh a) (ha : a + 5 < 192) (a6 : A.1 a 6 = nI nm) (hn : nm ≤ 10) (u : qb_M) : (tx_k n l b p = 2 ∧ tx_wd (tx_l n b p) = none → tx_ix (A.2.1 (a + 3)) nm (lN (qn_32 (tx_l n b p))) ≠ -1 → qe (d + 4) 39 [.ref a, .ref 65] (qb_hp (qj A u), 149, c) = some (some (.int (1)), (qb_hp (qj A u), 149, c))) ∧ (tx_k n l b p = 2 ∧ tx_wd (tx_l n b p) = none → tx_ix (A.2.1 (a + 3)) nm (lN (qn_32 (tx_l n b p))) = -1 → qe (d + 4) 39 [.ref a, .ref 65] (qb_hp (qj A u), 149, c) = some (some (.int (0)), (qb_hp (qj (fC A 3 (tx_p n l b p)) u), 149, c))) ∧ (¬ (tx_k n l b p = 2 ∧ tx_wd (tx_l n b p) = none) → qe (d + 4) 39 [.ref a, .ref 65] (qb_hp (qj A u), 149, c) = some (some (.int (0)), (qb_hp (qj (fC A 1 (tx_p n l b p)) u), 149, c))) := by
  have hx : (qj A u).2.1 (a + 3) = A.2.1 (a + 3) := funext fun k => qj_l (by omega)
  have cS : ∀ x, qe (d + 3) 35 [.ref a, .long x] (qb_hp (qj A u), 149, c) = some (some (.int (tx_ix (A.2.1 (a + 3)) nm x)), (qb_hp (qj A u), 149, c)) := fun x => by
    have := sp_switchNamed (d + 1) (qj A u) c hP ((qj_i (by omega)).trans a6) hn x
    rw [hx] at this
    exact this
  have hv : ∀ As : List Value, qv_o 4 (qb_hp (qj A u), 149, c) (.ref a :: As) = true := fun As => qb_qv hP.1 hP.2.2.1 hP.2.2.2
  have hv9 : ∀ As : List Value, qv_o 9 (qb_hp (qj A u), 149, c) (.ref 65 :: As) = true := fun As => qb_qv rfl (by decide) (by decide)
  have en : tx_k n l b p = 2 ∧ tx_wd (tx_l n b p) = none → ∀ R, qa_lm (qe (d + 3)) (qa_cd qc_39) (22, [.ref a, .ref 65], [], (qb_hp (qj A u), 149, c)) = qa_lm (qe (d + 3)) (qa_cd qc_39) (22, [.ref a, .ref 65], [], (qb_hp (qj A u), 149, c)) → (tx_ix (A.2.1 (a + 3)) nm (lN (qn_32 (tx_l n b p))) = -1 → qa_lm (qe (d + 3)) (qa_cd qc_39) (25, [.ref a, .ref 65], [], (qb_hp (qj A u), 149, c)) = R) → (tx_ix (A.2.1 (a + 3)) nm (lN (qn_32 (tx_l n b p))) ≠ -1 → qa_lm (qe (d + 3)) (qa_cd qc_39) (33, [.ref a, .ref 65], [], (qb_hp (qj A u), 149, c)) = R) → qe (d + 4) 39 [.ref a, .ref 65] (qb_hp (qj A u), 149, c) = R := fun hnm R _ g1 g2 => by
    have hL : (qj A u).2.1 65 9 = lN (qn_32 (tx_l n b p)) := (hC.2.2.2.2.2.1 hnm.1).1
    refine (en_39 (d + 3) a 65 _).trans ?_
    refine go_ald_2_1 rfl ?_
    refine go_call1 rfl (pc_isAtName (d + 2) c hC u) (Nat.le_of_ble_eq_true rfl) (qb_qv rfl (by decide) (by decide)) ?_
    refine go_ifne rfl (fun e => ?_) (fun e => ?_)
    · exact absurd hnm (qB_0.mp e)
    · refine go_ald_2_0 rfl ?_
      refine go_ald_2_1 rfl ?_
      refine go_getl rfl ⟨_, rfl, rfl, by decide, by decide⟩ ?_
      rw [hL]
      refine go_call2 rfl (cS _) (Nat.le_of_ble_eq_true rfl) (hv _) ?_
      refine go_c rfl ?_
      refine go_icne rfl (fun e2 => ?_) (fun e2 => ?_)
      · exact g1 e2
      · exact g2 e2
  refine ⟨fun hnm hi => en hnm _ rfl (fun z => absurd z hi) (fun _ => ?_), fun hnm hi => en hnm _ rfl (fun _ => ?_) (fun z => absurd hi z), fun hnm => ?_⟩
  · refine go_c rfl ?_
    refine go_goto rfl ?_
    exact fin_i rfl rfl rfl
  · refine go_ald_2_1 rfl ?_
    refine go_c rfl ?_
    refine go_call2 rfl (pc_fail (d + 2) c hC 3 u) (Nat.le_of_ble_eq_true rfl) (qb_qv rfl (by decide) (by decide)) ?_
    refine go_ifeq rfl (fun e => ?_) (fun e => ?_)
    · refine go_c rfl ?_
      exact fin_i rfl rfl rfl
    · exact absurd rfl e
  · refine (en_39 (d + 3) a 65 _).trans ?_
    refine go_ald_2_1 rfl ?_
    refine go_call1 rfl (pc_isAtName (d + 2) c hC u) (Nat.le_of_ble_eq_true rfl) (qb_qv rfl (by decide) (by decide)) ?_
    refine go_ifne rfl (fun e => ?_) (fun e => ?_)
    · refine go_ald_2_1 rfl ?_
      refine go_c rfl ?_
      refine go_call2 rfl (pc_fail (d + 2) c hC 1 u) (Nat.le_of_ble_eq_true rfl) (qb_qv rfl (by decide) (by decide)) ?_
      exact fin_i rfl rfl rfl
    · exact absurd (qB_f hnm) e
theorem br_sister (d d' : Nat) (c : Nat × Nat) {M : qb_M} {n l : Nat} {b : Nat → Nat} {p : Nat} (hC : rC M n l b p) (hM : rM M n l b p) (hk : tx_k n l b p = 2) {nw nm ns V F0 : Nat} {lo hi se : Nat → Nat} {wt vt : Bool} (hB : bD M nw nm ns V F0 lo hi se wt vt) : ∃ M' r, (∀ u, qe (d + 6) 38 [.ref 139, .ref 65] (qb_hp (qj M u), 149, c) = some (some (.int (r)), (qb_hp (qj M' u), 149, c))) ∧ (∀ u, qe (d' + 7) 189 [.ref 192] (qb_hp (qj u M), 149, c) = some (some (.int (r)), (qb_hp (qj u M'), 149, c))) ∧ rO bF bG n l b p M M' r bE := by
  obtain ⟨hZ, ⟨w1, w2⟩, v1, v2⟩ := id hB
  obtain ⟨z0, ⟨z1, z2, z3, z4, z5⟩, ⟨y1, y2, y3, y4, y5⟩, z6, z7⟩ := id hZ
  have hs5 : ns ≤ 5 := z0.2.2.2.1
  by_cases h10 : ns = 5
  · refine bo_fail (A := M) (B := M) (f := 4) (pl := tx_p n l b p) (P1 := bF) (Q1 := bF) (fun u => ?_) (fun u => ?_) (tx_p9 hC) qG.rf qG.rf (fun x j h => bG_of h)
    · refine (en_38 (d + 5) 139 65 _).trans ?_
      refine go_ald_2_0 rfl ?_
      refine go_geti rfl ⟨_, rfl, rfl, by decide, by decide⟩ ?_
      refine go_c rfl ?_
      rw [show (qj M u).1 139 7 = nI ns from z3, h10]
      refine go_iclt rfl (fun e => ?_) (fun e => ?_)
      · exact absurd e (by decide)
      · refine go_ald_2_1 rfl ?_
        refine go_c rfl ?_
        refine go_call2 rfl (pc_fail (d + 4) c hC 4 u) (Nat.le_of_ble_eq_true rfl) (qb_qv rfl (by decide) (by decide)) ?_
        exact fin_i rfl rfl rfl
    · have hb := pm_bad (d' + 4) c hM 4 u
      rw [if_neg (by omega)] at hb
      have hf : qe (d' + 6) 185 [.ref 192, .int 2, .int 5] (qb_hp (qj u M), 149, c) = some (some (.int (0)), (qb_hp (qj u (fM M 4 (tx_p n l b p))), 149, c)) := by
        refine (en_185 (d' + 5) 192 2 5 _).trans ?_
        refine go_ald_3_0 rfl ?_
        refine go_getr rfl ⟨_, rfl, rfl, by decide, by decide⟩ ?_
        refine go_ild_3_1 rfl ?_
        refine go_iald (j := 2) rfl (⟨rfl, by decide, by decide, by decide⟩) (rfl) (by decide) ?_
        refine go_ild_3_2 rfl ?_
        rw [show (qj u M).1 195 2 = nI ns from y3, h10]
        refine go_icne rfl (fun e => ?_) (fun e => ?_)
        · refine go_ald_3_0 rfl ?_
          refine go_c rfl ?_
          refine go_call2 rfl (hb) (Nat.le_of_ble_eq_true rfl) (qb_qv rfl (by decide) (by decide)) ?_
          exact fin_i rfl rfl rfl
        · exact absurd rfl e
      refine (en_189 (d' + 6) 192 _).trans ?_
      refine go_ald_2_0 rfl ?_
      refine go_c rfl ?_
      refine go_c rfl ?_
      refine go_call3 rfl (hf) (Nat.le_of_ble_eq_true rfl) (qb_qv rfl (by decide) (by decide)) ?_
      refine go_ifne rfl (fun e => ?_) (fun e => ?_)
      · refine go_c rfl ?_
        exact fin_i rfl rfl rfl
      · exact absurd rfl e
  · have hns : ns < 5 := by omega
    obtain ⟨A1, a1, a2, a3⟩ := pc_step (d + 2) c hC
    obtain ⟨B1, b1, b2, b3⟩ := pm_go (d' + 2) c hM
    have hpe := tx_e_lt hC.1 (by omega) (by omega : tx_k n l b p ≠ 1)
    obtain ⟨p1, hp1⟩ : ∃ p1, p1 = tx_e n l b p := ⟨_, rfl⟩
    rw [← hp1] at a2 b2 hpe
    have c1 : ∀ u R, qa_lm (qe (d + 5)) (qa_cd qc_38) (18, [.ref 139, .ref 65], [], (qb_hp (qj A1 u), 149, c)) = R → qe (d + 6) 38 [.ref 139, .ref 65] (qb_hp (qj M u), 149, c) = R := fun u R hR => by
      refine (en_38 (d + 5) 139 65 _).trans ?_
      refine go_ald_2_0 rfl ?_
      refine go_geti rfl ⟨_, rfl, rfl, by decide, by decide⟩ ?_
      refine go_c rfl ?_
      rw [show (qj M u).1 139 7 = nI ns from z3]
      refine go_iclt rfl (fun e => ?_) (fun e => ?_)
      · refine go_ald_2_1 rfl ?_
        refine go_call1 rfl (a1 u) (Nat.le_of_ble_eq_true rfl) (qb_qv rfl (by decide) (by decide)) ?_
        exact hR
      · exact absurd (nI_lt hns (by decide)) e
    have m1 : ∀ u R, qa_lm (qe (d' + 6)) (qa_cd qc_189) (18, [.ref 192, .int (nI ns)], [], (qb_hp (qj u B1), 149, c)) = R → qe (d' + 7) 189 [.ref 192] (qb_hp (qj u M), 149, c) = R := fun u R hR => by
      have hf : qe (d' + 6) 185 [.ref 192, .int 2, .int 5] (qb_hp (qj u M), 149, c) = some (some (.int (1)), (qb_hp (qj u B1), 149, c)) := by
        refine (en_185 (d' + 5) 192 2 5 _).trans ?_
        refine go_ald_3_0 rfl ?_
        refine go_getr rfl ⟨_, rfl, rfl, by decide, by decide⟩ ?_
        refine go_ild_3_1 rfl ?_
        refine go_iald (j := 2) rfl (⟨rfl, by decide, by decide, by decide⟩) (rfl) (by decide) ?_
        refine go_ild_3_2 rfl ?_
        rw [show (qj u M).1 195 2 = nI ns from y3]
        refine go_icne rfl (fun e => ?_) (fun e => ?_)
        · exact absurd ((nI_eq (b := 5) (by omega) (by decide)).mp e) h10
        · refine go_ald_3_0 rfl ?_
          refine go_call1 rfl (b1 u) (Nat.le_of_ble_eq_true rfl) (qb_qv rfl (by decide) (by decide)) ?_
          refine go_c rfl ?_
          exact fin_i rfl rfl rfl
      refine (en_189 (d' + 6) 192 _).trans ?_
      refine go_ald_2_0 rfl ?_
      refine go_c rfl ?_
      refine go_c rfl ?_
      refine go_call3 rfl (hf) (Nat.le_of_ble_eq_true rfl) (qb_qv rfl (by decide) (by decide)) ?_
      refine go_ifne rfl (fun e => ?_) (fun e => ?_)
      · exact absurd e (by decide)
      · refine go_ald_2_0 rfl ?_
        refine go_getr rfl ⟨_, rfl, rfl, by decide, by decide⟩ ?_
        refine go_c rfl ?_
        refine go_iald (j := 2) rfl ⟨rfl, by decide, by decide, by decide⟩ rfl (by decide) ?_
        rw [show (qj u B1).1 195 2 = nI ns from (b3.i (by omega)).trans y3]
        refine go_ist_2_1 rfl rfl ?_
        exact hR
    have hN : nR A1 B1 nm ns := ⟨⟨(a3.i (by omega)).trans z2, (a3.i (by omega)).trans z3⟩, ⟨(b3.i (by omega)).trans y2, (b3.i (by omega)).trans y3⟩, ⟨z0.2.2.1, hs5⟩, fun k hk => by
      rw [a3.l (by omega), b3.l (by omega)]
      have := (z6 k hk).2.2.2
      rw [Nat.zero_add] at this
      exact this, fun k hk => by
      rw [a3.l (by omega), b3.l (by omega)]
      have := (z7 k hk).2.2.2
      rw [Nat.zero_add] at this
      exact this⟩
    rcases nn_both (d + 1) (d' + 1) c a2 b2 hN (10 + ns) (by omega) with ⟨k2, g1, B2, g2, g3, g4, g5⟩ | ⟨f, g1, g2⟩
    · have hok := tx_l_ok a2.1 k2
      have hL : ∀ u, (qj A1 u).2.1 65 9 = lN (qn_32 (tx_l n b p1)) := fun u => (a2.2.2.2.2.2.1 k2).1
      obtain ⟨A2, e1, e2, e3⟩ := pc_step (d + 2) c (a2.mv (P := fun x k => x = 143) (N := qb_ul A1 143 ns (lN (qn_32 (tx_l n b p1)))) (qG.rf.ul rfl) (fun x k h => by omega))
      have hpe1 := tx_e_lt a2.1 (by omega) (by omega : tx_k n l b p1 ≠ 1)
      obtain ⟨p2, hp2⟩ : ∃ p2, p2 = tx_e n l b p1 := ⟨_, rfl⟩
      rw [← hp2] at e2 g3 hpe1
      have gA2 : qG (fun x k => x = 65 ∧ 5 ≤ k ∧ k ≤ 10 ∨ x = 143 ∧ k = ns) M A2 := ((a3.mo (fun x k h => by omega)).tr (qG.rf.ul (by omega))).tr (e3.mo (fun x k h => by omega))
      have gB2 : qG (fun x k => x = 192 ∧ (5 ≤ k ∧ k ≤ 9 ∨ k = 12 ∨ k = 13) ∨ x = 200 ∧ k = 10 + ns) M B2 := (b3.mo (fun x k h => by omega)).tr (g5.mo (fun x k h => by omega))
      have n2 : A2.2.1 143 ns = lN (qn_32 (tx_l n b p1)) := (e3.l (by omega)).trans qb_ul_1s
      have c2 : ∀ u R, qa_lm (qe (d + 5)) (qa_cd qc_38) (45, [.ref 139, .ref 65], [], (qb_hp (qj A2 u), 149, c)) = R → qe (d + 6) 38 [.ref 139, .ref 65] (qb_hp (qj M u), 149, c) = R := fun u R hR => c1 u R (by
        refine go_ald_2_0 rfl ?_
        refine go_ald_2_1 rfl ?_
        refine go_call2 rfl (g1 u) (Nat.le_of_ble_eq_true rfl) (qb_qv rfl (by decide) (by decide)) ?_
        refine go_ifne rfl (fun e => ?_) (fun e => ?_)
        · exact absurd e (by decide)
        · refine go_ald_2_0 rfl ?_
          refine go_getr rfl ⟨_, rfl, rfl, by decide, by decide⟩ ?_
          refine go_ald_2_0 rfl ?_
          refine go_geti rfl ⟨_, rfl, rfl, by decide, by decide⟩ ?_
          rw [show (qj A1 u).1 139 7 = nI ns from (a3.i (by omega)).trans z3]
          refine go_ald_2_1 rfl ?_
          refine go_getl rfl ⟨_, rfl, rfl, by decide, by decide⟩ ?_
          rw [hL]
          refine go_last (j := ns) rfl (⟨rfl, by decide, by decide, by decide⟩) (rfl) (by omega) ?_
          rw [qj_ul (by decide)]
          refine go_ald_2_1 rfl ?_
          refine go_call1 rfl (e1 u) (Nat.le_of_ble_eq_true rfl) (qb_qv rfl (by decide) (by decide)) ?_
          exact hR)
      have m2 : ∀ u R, qa_lm (qe (d' + 6)) (qa_cd qc_189) (31, [.ref 192, .int (nI ns)], [], (qb_hp (qj u B2), 149, c)) = R → qe (d' + 7) 189 [.ref 192] (qb_hp (qj u M), 149, c) = R := fun u R hR => m1 u R (by
        refine go_ald_2_0 rfl ?_
        refine go_c rfl ?_
        refine go_ild_2_1 rfl ?_
        refine go_iadd rfl ?_
        rw [show (10 : Int32) = nI 10 from rfl, nI_add]
        refine go_call2 rfl (g2 u) (Nat.le_of_ble_eq_true rfl) (qb_qv rfl (by decide) (by decide)) ?_
        refine go_ifne rfl (fun e => ?_) (fun e => ?_)
        · exact absurd e (by decide)
        · exact hR)
      have a6 : A2.1 139 6 = nI nm := (gA2.i (by omega)).trans z2
      have b6 : B2.1 195 1 = nI nm := (gB2.i (by omega)).trans y2
      by_cases hnm : tx_k n l b p2 = 2 ∧ tx_wd (tx_l n b p2) = none
      · have hok2 := tx_l_ok e2.1 hnm.1
        have i1 : tx_ix (A2.2.1 142) nm (lN (qn_32 (tx_l n b p2))) = tx_ix (fun k => B2.2.1 200 (0 + k)) nm (lN (qn_27 (tx_l n b p2))) := tx_ix_cong (fun k hk => by
          rw [gA2.l (by omega), gB2.l (by omega)]
          exact qn_same (z6 k hk).2.2.2 hok2)
        have mS : ∀ u, qe (d' + 6) 188 [.ref 200, .int (nI 0), .int (nI nm), .long (lN (qn_27 (tx_l n b p2)))] (qb_hp (qj u B2), 149, c) = some (some (.int (tx_ix (A2.2.1 142) nm (lN (qn_32 (tx_l n b p2))))), (qb_hp (qj u B2), 149, c)) := fun u => by
          rw [i1]
          exact sp_findIn (d' + 5) (qj u B2) c (a := 200) (N := 15) ⟨rfl, by decide, by decide, by decide⟩ (by have := z0.2.2.1; omega) _
        have cS : ∀ u, qe (d + 5) 35 [.ref 139, .long (lN (qn_32 (tx_l n b p2)))] (qb_hp (qj A2 u), 149, c) = some (some (.int (tx_ix (A2.2.1 142) nm (lN (qn_32 (tx_l n b p2))))), (qb_hp (qj A2 u), 149, c)) := fun u => sp_switchNamed (d + 3) (qj A2 u) c qP_139 (show (qj A2 u).1 139 6 = nI nm from a6) z0.2.2.1 _
        have hL2 : ∀ u, (qj A2 u).2.1 65 9 = lN (qn_32 (tx_l n b p2)) := fun u => (e2.2.2.2.2.2.1 hnm.1).1
        have hW2 : ∀ u, (qj u B2).2.1 192 12 = lN (qn_27 (tx_l n b p2)) := fun u => g3.2.2.2.2.2.2.1 hnm.1
        have pS := fun u => pc_isSwitchName (d + 1) c e2 qP_139 (by decide) a6 z0.2.2.1 u
        generalize tx_ix (A2.2.1 142) nm (lN (qn_32 (tx_l n b p2))) = I at mS cS pS
        have m3 : ∀ u R, qa_lm (qe (d' + 6)) (qa_cd qc_189) (71, [.ref 192, .int (nI ns)], [], (qb_hp (qj u (qb_ui B2 195 (25 + ns) I)), 149, c)) = R → qe (d' + 7) 189 [.ref 192] (qb_hp (qj u M), 149, c) = R := fun u R hR => m2 u R (by
          refine go_ald_2_0 rfl ?_
          refine go_call1 rfl (pm_isName (d' + 3) c g3 u) (Nat.le_of_ble_eq_true rfl) (qb_qv rfl (by decide) (by decide)) ?_
          refine go_ifne rfl (fun e => ?_) (fun e => ?_)
          · exact absurd hnm (qB_0.mp e)
          · refine go_ald_2_0 rfl ?_
            refine go_getr rfl ⟨_, rfl, rfl, by decide, by decide⟩ ?_
            refine go_c rfl ?_
            refine go_ild_2_1 rfl ?_
            refine go_iadd rfl ?_
            rw [show (25 : Int32) = nI 25 from rfl, nI_add]
            refine go_ald_2_0 rfl ?_
            refine go_getr rfl ⟨_, rfl, rfl, by decide, by decide⟩ ?_
            refine go_c rfl ?_
            refine go_ald_2_0 rfl ?_
            refine go_getr rfl ⟨_, rfl, rfl, by decide, by decide⟩ ?_
            refine go_c rfl ?_
            refine go_iald (j := 1) rfl ⟨rfl, by decide, by decide, by decide⟩ rfl (by decide) ?_
            rw [show (qj u B2).1 195 1 = nI nm from b6]
            refine go_ald_2_0 rfl ?_
            refine go_getl rfl ⟨_, rfl, rfl, by decide, by decide⟩ ?_
            rw [hW2]
            refine go_call4 rfl (mS u) (Nat.le_of_ble_eq_true rfl) rfl ?_
            refine go_iast (j := 25 + ns) rfl (⟨rfl, by decide, by decide, by decide⟩) (rfl) (by omega) ?_
            rw [qj_UI (by decide)]
            exact hR)
        by_cases hI : I = -1
        · refine bo_fail (A := A2) (B := qb_ui B2 195 (25 + ns) I) (f := 3) (pl := tx_p n l b p2) (P1 := fun x k => x = 65 ∧ 5 ≤ k ∧ k ≤ 10 ∨ x = 143 ∧ k = ns) (Q1 := fun x k => x = 192 ∧ (5 ≤ k ∧ k ≤ 9 ∨ k = 12 ∨ k = 13) ∨ x = 200 ∧ k = 10 + ns ∨ x = 195) (fun u => c2 u _ ?_) (fun u => m3 u _ ?_) (tx_p9 e2) gA2 ((gB2.mo (fun x k h => by omega)).ui (by omega)) (fun x j h => by unfold bG bF; omega)
          · refine go_ald_2_0 rfl ?_
            refine go_ald_2_1 rfl ?_
            refine go_call2 rfl ((pS u).2.1 hnm hI) (Nat.le_of_ble_eq_true rfl) (qb_qv rfl (by decide) (by decide)) ?_
            refine go_ifne rfl (fun e => ?_) (fun e => ?_)
            · refine go_c rfl ?_
              exact fin_i rfl rfl rfl
            · exact absurd rfl e
          · have g3' : rM (qb_ui B2 195 (25 + ns) I) n l b p2 := g3.mv (P := fun x k => x = 195) (qG.rf.ui rfl) (fun x k h => by omega)
            have hb := pm_bad (d' + 5) c g3' 3 u
            rw [if_neg (by omega)] at hb
            refine go_ald_2_0 rfl ?_
            refine go_getr rfl ⟨_, rfl, rfl, by decide, by decide⟩ ?_
            refine go_c rfl ?_
            refine go_ild_2_1 rfl ?_
            refine go_iadd rfl ?_
            rw [show (25 : Int32) = nI 25 from rfl, nI_add]
            refine go_iald (j := 25 + ns) rfl (⟨rfl, by decide, by decide, by decide⟩) (rfl) (by omega) ?_
            rw [show (qj u (qb_ui B2 195 (25 + ns) I)).1 195 (25 + ns) = I from qb_ui_1s]
            refine go_c rfl ?_
            refine go_icne rfl (fun e => ?_) (fun e => ?_)
            · refine go_ald_2_0 rfl ?_
              refine go_c rfl ?_
              refine go_call2 rfl (hb) (Nat.le_of_ble_eq_true rfl) (qb_qv rfl (by decide) (by decide)) ?_
              exact fin_i rfl rfl rfl
            · exact absurd hI e
        · obtain ⟨z, hz, hIz⟩ : ∃ z, z < nm ∧ I = nI z := by
            rcases tx_ix_or (f := A2.2.1 142) (many := nm) (x := lN (qn_32 (tx_l n b p2))) with h | h
            · exact absurd (by
                have h1 := (cS A2).symm.trans (sp_switchNamed (d + 3) (qj A2 A2) c qP_139 (show (qj A2 A2).1 139 6 = nI nm from a6) z0.2.2.1 _)
                have h2 := congrArg (fun o => o.map Prod.fst) h1
                have h3 : some (some (Value.int I)) = some (some (Value.int (tx_ix ((qj A2 A2).2.1 142) nm (lN (qn_32 (tx_l n b p2)))))) := h2
                have h4 := Value.int.inj (Option.some.inj (Option.some.inj h3))
                rw [h4, show (qj A2 A2).2.1 142 = A2.2.1 142 from rfl]
                exact h) hI
            · obtain ⟨z, h1, h2⟩ := h
              refine ⟨z, h1, ?_⟩
              have h3 := (cS A2).symm.trans (sp_switchNamed (d + 3) (qj A2 A2) c qP_139 (show (qj A2 A2).1 139 6 = nI nm from a6) z0.2.2.1 _)
              have h4 := congrArg (fun o => o.map Prod.fst) h3
              have h5 : some (some (Value.int I)) = some (some (Value.int (tx_ix ((qj A2 A2).2.1 142) nm (lN (qn_32 (tx_l n b p2)))))) := h4
              have h6 := Value.int.inj (Option.some.inj (Option.some.inj h5))
              rw [h6, show (qj A2 A2).2.1 142 = A2.2.1 142 from rfl]
              exact h2
          obtain ⟨A3, o1, o2, o3⟩ := pc_step (d + 2) c (e2.mv (P := fun x k => x = 139 ∨ x = 144) (N := qb_ui (qb_ui A2 144 ns I) 139 7 (nI (ns + 1))) ((qG.rf.ui (by omega)).ui (by omega)) (fun x k h => by omega))
          obtain ⟨B3, t1, t2, t3⟩ := pm_go (d' + 3) c (g3.mv (P := fun x k => x = 195) (N := qb_ui (qb_ui B2 195 (25 + ns) I) 195 2 (nI (ns + 1))) ((qG.rf.ui (by omega)).ui (by omega)) (fun x k h => by omega))
          have hpe2 := tx_e_lt e2.1 (by omega) (by omega : tx_k n l b p2 ≠ 1)
          have gA3 : qG (fun x k => x = 65 ∧ 5 ≤ k ∧ k ≤ 10 ∨ (x = 143 ∨ x = 144) ∧ k = ns ∨ x = 139 ∧ k = 7) M A3 := (((gA2.mo (fun x k h => by omega)).ui (by omega)).ui (by omega)).tr (o3.mo (fun x k h => by omega))
          have gB3 : qG (fun x k => x = 192 ∧ (5 ≤ k ∧ k ≤ 9 ∨ k = 12 ∨ k = 13) ∨ x = 200 ∧ k = 10 + ns ∨ x = 195 ∧ (k = 2 ∨ k = 25 + ns)) M B3 := (((gB2.mo (fun x k h => by omega)).ui (by omega)).ui (by omega)).tr (t3.mo (fun x k h => by omega))
          refine bo_good (A := A3) (B := B3) (p' := tx_e n l b p2) (P1 := fun x k => x = 65 ∧ 5 ≤ k ∧ k ≤ 10 ∨ (x = 143 ∨ x = 144) ∧ k = ns ∨ x = 139 ∧ k = 7) (Q1 := fun x k => x = 192 ∧ (5 ≤ k ∧ k ≤ 9 ∨ k = 12 ∨ k = 13) ∨ x = 200 ∧ k = 10 + ns ∨ x = 195 ∧ (k = 2 ∨ k = 25 + ns)) (fun u => c2 u _ ?_) (fun u => m3 u _ ?_) (by omega) o2 t2 ?_ gA3 gB3 (fun x j h => by unfold bF; omega)
          · refine go_ald_2_0 rfl ?_
            refine go_ald_2_1 rfl ?_
            refine go_call2 rfl ((pS u).1 hnm hI) (Nat.le_of_ble_eq_true rfl) (qb_qv rfl (by decide) (by decide)) ?_
            refine go_ifne rfl (fun e => ?_) (fun e => ?_)
            · exact absurd e (by decide)
            · refine go_ald_2_0 rfl ?_
              refine go_getr rfl ⟨_, rfl, rfl, by decide, by decide⟩ ?_
              refine go_ald_2_0 rfl ?_
              refine go_geti rfl ⟨_, rfl, rfl, by decide, by decide⟩ ?_
              rw [show (qj A2 u).1 139 7 = nI ns from (gA2.i (by omega)).trans z3]
              refine go_ald_2_0 rfl ?_
              refine go_ald_2_1 rfl ?_
              refine go_getl rfl ⟨_, rfl, rfl, by decide, by decide⟩ ?_
              rw [hL2]
              refine go_call2 rfl (cS u) (Nat.le_of_ble_eq_true rfl) (qb_qv rfl (by decide) (by decide)) ?_
              refine go_iast (j := ns) rfl (⟨rfl, by decide, by decide, by decide⟩) (rfl) (by omega) ?_
              rw [qj_ui (by decide)]
              refine go_ald_2_0 rfl ?_
              refine go_dup_ref rfl ?_
              refine go_geti rfl ⟨_, rfl, rfl, by decide, by decide⟩ ?_
              refine go_c rfl ?_
              rw [show (qj (qb_ui A2 144 ns I) u).1 139 7 = nI ns from (qj_i (by decide)).trans ((qb_ui_1n (Or.inl (by decide))).trans ((gA2.i (by omega)).trans z3))]
              refine go_iadd rfl ?_
              rw [nI_1]
              refine go_puti rfl ⟨_, rfl, rfl, by decide, by decide⟩ rfl rfl ?_
              rw [qj_ui (by decide)]
              refine go_ald_2_1 rfl ?_
              refine go_call1 rfl (o1 u) (Nat.le_of_ble_eq_true rfl) (qb_qv rfl (by decide) (by decide)) ?_
              refine go_c rfl ?_
              exact fin_i rfl rfl rfl
          · refine go_ald_2_0 rfl ?_
            refine go_getr rfl ⟨_, rfl, rfl, by decide, by decide⟩ ?_
            refine go_c rfl ?_
            refine go_ild_2_1 rfl ?_
            refine go_iadd rfl ?_
            rw [show (25 : Int32) = nI 25 from rfl, nI_add]
            refine go_iald (j := 25 + ns) rfl (⟨rfl, by decide, by decide, by decide⟩) (rfl) (by omega) ?_
            rw [show (qj u (qb_ui B2 195 (25 + ns) I)).1 195 (25 + ns) = I from qb_ui_1s]
            refine go_c rfl ?_
            refine go_icne rfl (fun e => ?_) (fun e => ?_)
            · exact absurd e hI
            · refine go_ald_2_0 rfl ?_
              refine go_getr rfl ⟨_, rfl, rfl, by decide, by decide⟩ ?_
              refine go_c rfl ?_
              refine go_dup2 rfl ?_
              refine go_iald (j := 2) rfl ⟨rfl, by decide, by decide, by decide⟩ rfl (by decide) ?_
              rw [show (qj u (qb_ui B2 195 (25 + ns) I)).1 195 2 = nI ns from (qb_ui_1n (Or.inr (by omega))).trans ((gB2.i (by omega)).trans y3)]
              refine go_c rfl ?_
              refine go_iadd rfl ?_
              rw [nI_1]
              refine go_iast (j := 2) rfl ⟨rfl, by decide, by decide, by decide⟩ rfl (by decide) ?_
              rw [qj_UI (by decide)]
              refine go_ald_2_0 rfl ?_
              refine go_call1 rfl (t1 u) (Nat.le_of_ble_eq_true rfl) (qb_qv rfl (by decide) (by decide)) ?_
              refine go_c rfl ?_
              exact fin_i rfl rfl rfl
          · have gJ := qj_G gA3 gB3
            obtain ⟨se', hse1, hse2⟩ : ∃ se' : Nat → Nat, se' ns = z ∧ ∀ k, k ≠ ns → se' k = se k := ⟨fun k => if k = ns then z else se k, if_pos rfl, fun k h => if_neg h⟩
            refine ⟨nw, nm, ns + 1, V, F0, lo, hi, se', wt, vt, ⟨⟨z0.1, z0.2.1, z0.2.2.1, by omega, z0.2.2.2.2.1, z0.2.2.2.2.2⟩, ⟨(gJ.i (by omega)).trans z1, (gJ.i (by omega)).trans z2, ?_, (gJ.i (by omega)).trans z4, (gJ.i (by omega)).trans z5⟩, ⟨(gJ.i (by omega)).trans y1, (gJ.i (by omega)).trans y2, ?_, (gJ.i (by omega)).trans y4, (gJ.i (by omega)).trans y5⟩, fun k hk => ?_, fun k hk => ?_⟩, ⟨(gJ.i (by omega)).trans w1, (gJ.i (by omega)).trans w2⟩, (gJ.i (by omega)).trans v1, (gJ.i (by omega)).trans v2⟩
            · show A3.1 139 7 = _
              exact (o3.i (by omega)).trans qb_ui_1s
            · show B3.1 195 2 = _
              exact (t3.i (by omega)).trans qb_ui_1s
            · rw [gJ.i (by omega), gJ.i (by omega), gJ.i (by omega), gJ.i (by omega), gJ.l (by omega), gJ.l (by omega)]
              exact z6 k hk
            · by_cases e : k = ns
              · subst e
                rw [hse1, Nat.zero_add, Nat.zero_add]
                refine ⟨hz, ?_, ?_, tx_l n b p1, hok, ?_, ?_⟩
                · show A3.1 144 k = _
                  exact (o3.i (by omega)).trans ((qb_ui_1n (Or.inl (by decide))).trans (qb_ui_1s.trans hIz))
                · show B3.1 195 (25 + k) = _
                  exact (t3.i (by omega)).trans ((qb_ui_1n (Or.inr (by omega))).trans (qb_ui_1s.trans hIz))
                · show A3.2.1 143 k = _
                  exact (o3.l (by omega)).trans n2
                · show B3.2.1 200 (10 + k) = _
                  exact (t3.l (by omega)).trans g4
              · rw [hse2 k e, gJ.i (by omega), gJ.i (by omega), gJ.l (by omega), gJ.l (by omega)]
                exact z7 k (by omega)
      · refine bo_fail (A := A2) (B := B2) (f := 1) (pl := tx_p n l b p2) (P1 := fun x k => x = 65 ∧ 5 ≤ k ∧ k ≤ 10 ∨ x = 143 ∧ k = ns) (Q1 := fun x k => x = 192 ∧ (5 ≤ k ∧ k ≤ 9 ∨ k = 12 ∨ k = 13) ∨ x = 200 ∧ k = 10 + ns) (fun u => c2 u _ ?_) (fun u => m2 u _ ?_) (tx_p9 e2) gA2 gB2 (fun x j h => by unfold bG bF; omega)
        · refine go_ald_2_0 rfl ?_
          refine go_ald_2_1 rfl ?_
          refine go_call2 rfl ((pc_isSwitchName (d + 1) c e2 qP_139 (by decide) a6 z0.2.2.1 u).2.2 hnm) (Nat.le_of_ble_eq_true rfl) (qb_qv rfl (by decide) (by decide)) ?_
          refine go_ifne rfl (fun e => ?_) (fun e => ?_)
          · refine go_c rfl ?_
            exact fin_i rfl rfl rfl
          · exact absurd rfl e
        · have hb := pm_bad (d' + 5) c g3 1 u
          rw [ite_self] at hb
          refine go_ald_2_0 rfl ?_
          refine go_call1 rfl (pm_isName (d' + 3) c g3 u) (Nat.le_of_ble_eq_true rfl) (qb_qv rfl (by decide) (by decide)) ?_
          refine go_ifne rfl (fun e => ?_) (fun e => ?_)
          · refine go_ald_2_0 rfl ?_
            refine go_c rfl ?_
            refine go_call2 rfl (hb) (Nat.le_of_ble_eq_true rfl) (qb_qv rfl (by decide) (by decide)) ?_
            exact fin_i rfl rfl rfl
          · exact absurd (qB_f hnm) e
    · refine bo_fail (A := A1) (B := B1) (f := f) (pl := tx_p n l b p1) (P1 := bF) (Q1 := bF) (fun u => c1 u _ ?_) (fun u => m1 u _ ?_) (tx_p9 a2) (a3.mo (fun x k h => bF_C h)) (b3.mo (fun x k h => bF_M h)) (fun x j h => bG_of h)
      · refine go_ald_2_0 rfl ?_
        refine go_ald_2_1 rfl ?_
        refine go_call2 rfl (g1 u) (Nat.le_of_ble_eq_true rfl) (qb_qv rfl (by decide) (by decide)) ?_
        refine go_ifne rfl (fun e => ?_) (fun e => ?_)
        · refine go_c rfl ?_
          exact fin_i rfl rfl rfl
        · exact absurd rfl e
      · refine go_ald_2_0 rfl ?_
        refine go_c rfl ?_
        refine go_ild_2_1 rfl ?_
        refine go_iadd rfl ?_
        rw [show (10 : Int32) = nI 10 from rfl, nI_add]
        refine go_call2 rfl (g2 u) (Nat.le_of_ble_eq_true rfl) (qb_qv rfl (by decide) (by decide)) ?_
        refine go_ifne rfl (fun e => ?_) (fun e => ?_)
        · refine go_c rfl ?_
          exact fin_i rfl rfl rfl
        · exact absurd rfl e
/-- a line of a board -/
theorem br_line (d d' : Nat) (c : Nat × Nat) {M : qb_M} {n l : Nat} {b : Nat → Nat} {p : Nat} (hC : rC M n l b p) (hM : rM M n l b p) (hB : bE M) : ∃ M' r, (∀ u, qe (d + 7) 27 [.ref 139, .ref 65] (qb_hp (qj M u), 149, c) = some (some (.int (r)), (qb_hp (qj M' u), 149, c))) ∧ (∀ u, qe (d' + 8) 174 [.ref 192] (qb_hp (qj u M), 149, c) = some (some (.int (r)), (qb_hp (qj u M'), 149, c))) ∧ rO bF bG n l b p M M' r bE := by
  obtain ⟨nw, nm, ns, V, F0, lo, hi, se, wt, vt, hB⟩ := hB
  have i0 := pc_isAt (d + 5) c hC 0 (by decide)
  have i1 := pc_isAt (d + 5) c hC 1 (by decide)
  have i3 := pc_isAt (d + 5) c hC 3 (by decide)
  have i4 := pc_isAt (d + 5) c hC 4 (by decide)
  have j0 := pm_isWord (d' + 4) c hM 0 (by decide)
  have j1 := pm_isWord (d' + 4) c hM 1 (by decide)
  have j2 := pm_isWord (d' + 4) c hM 2 (by decide)
  have j3 := pm_isWord (d' + 4) c hM 3 (by decide)
  have C0 : ∀ u R, (tx_k n l b p = 2 ∧ tx_wd (tx_l n b p) = some 0 → qa_lm (qe (d + 6)) (qa_cd qc_27) (10, [.ref 139, .ref 65], [], (qb_hp (qj M u), 149, c)) = R) → (¬ (tx_k n l b p = 2 ∧ tx_wd (tx_l n b p) = some 0) → qa_lm (qe (d + 6)) (qa_cd qc_27) (16, [.ref 139, .ref 65], [], (qb_hp (qj M u), 149, c)) = R) → qe (d + 7) 27 [.ref 139, .ref 65] (qb_hp (qj M u), 149, c) = R := fun u R g1 g2 => by
    refine (en_27 (d + 6) 139 65 _).trans ?_
    refine go_ald_2_1 rfl ?_
    refine go_c rfl ?_
    refine go_call2 rfl (i0 u) (Nat.le_of_ble_eq_true rfl) (qb_qv rfl (by decide) (by decide)) ?_
    refine go_ifeq rfl (fun e => ?_) (fun e => ?_)
    · exact g2 (qB_0.mp e)
    · exact g1 (Classical.byContradiction fun z => e (qB_f z))
  have C1 : ∀ u R, (tx_k n l b p = 2 ∧ tx_wd (tx_l n b p) = some 1 → qa_lm (qe (d + 6)) (qa_cd qc_27) (26, [.ref 139, .ref 65], [], (qb_hp (qj M u), 149, c)) = R) → (¬ (tx_k n l b p = 2 ∧ tx_wd (tx_l n b p) = some 1) → qa_lm (qe (d + 6)) (qa_cd qc_27) (32, [.ref 139, .ref 65], [], (qb_hp (qj M u), 149, c)) = R) → qa_lm (qe (d + 6)) (qa_cd qc_27) (16, [.ref 139, .ref 65], [], (qb_hp (qj M u), 149, c)) = R := fun u R g1 g2 => by
    refine go_ald_2_1 rfl ?_
    refine go_c rfl ?_
    refine go_call2 rfl (i1 u) (Nat.le_of_ble_eq_true rfl) (qb_qv rfl (by decide) (by decide)) ?_
    refine go_ifeq rfl (fun e => ?_) (fun e => ?_)
    · exact g2 (qB_0.mp e)
    · exact g1 (Classical.byContradiction fun z => e (qB_f z))
  have C3 : ∀ u R, (tx_k n l b p = 2 ∧ tx_wd (tx_l n b p) = some 3 → qa_lm (qe (d + 6)) (qa_cd qc_27) (42, [.ref 139, .ref 65], [], (qb_hp (qj M u), 149, c)) = R) → (¬ (tx_k n l b p = 2 ∧ tx_wd (tx_l n b p) = some 3) → qa_lm (qe (d + 6)) (qa_cd qc_27) (48, [.ref 139, .ref 65], [], (qb_hp (qj M u), 149, c)) = R) → qa_lm (qe (d + 6)) (qa_cd qc_27) (32, [.ref 139, .ref 65], [], (qb_hp (qj M u), 149, c)) = R := fun u R g1 g2 => by
    refine go_ald_2_1 rfl ?_
    refine go_c rfl ?_
    refine go_call2 rfl (i3 u) (Nat.le_of_ble_eq_true rfl) (qb_qv rfl (by decide) (by decide)) ?_
    refine go_ifeq rfl (fun e => ?_) (fun e => ?_)
    · exact g2 (qB_0.mp e)
    · exact g1 (Classical.byContradiction fun z => e (qB_f z))
  have C4 : ∀ u R, (tx_k n l b p = 2 ∧ tx_wd (tx_l n b p) = some 4 → qa_lm (qe (d + 6)) (qa_cd qc_27) (58, [.ref 139, .ref 65], [], (qb_hp (qj M u), 149, c)) = R) → (¬ (tx_k n l b p = 2 ∧ tx_wd (tx_l n b p) = some 4) → qa_lm (qe (d + 6)) (qa_cd qc_27) (64, [.ref 139, .ref 65], [], (qb_hp (qj M u), 149, c)) = R) → qa_lm (qe (d + 6)) (qa_cd qc_27) (48, [.ref 139, .ref 65], [], (qb_hp (qj M u), 149, c)) = R := fun u R g1 g2 => by
    refine go_ald_2_1 rfl ?_
    refine go_c rfl ?_
    refine go_call2 rfl (i4 u) (Nat.le_of_ble_eq_true rfl) (qb_qv rfl (by decide) (by decide)) ?_
    refine go_ifeq rfl (fun e => ?_) (fun e => ?_)
    · exact g2 (qB_0.mp e)
    · exact g1 (Classical.byContradiction fun z => e (qB_f z))
  have D0 : ∀ u R, (tx_k n l b p = 2 ∧ tx_wd (tx_l n b p) = some 0 → qa_lm (qe (d' + 7)) (qa_cd qc_174) (8, [.ref 192], [], (qb_hp (qj u M), 149, c)) = R) → (¬ (tx_k n l b p = 2 ∧ tx_wd (tx_l n b p) = some 0) → qa_lm (qe (d' + 7)) (qa_cd qc_174) (13, [.ref 192], [], (qb_hp (qj u M), 149, c)) = R) → qe (d' + 8) 174 [.ref 192] (qb_hp (qj u M), 149, c) = R := fun u R g1 g2 => by
    refine (en_174 (d' + 7) 192 _).trans ?_
    refine go_ald_1_0 rfl ?_
    refine go_c rfl ?_
    refine go_call2 rfl (j0 u) (Nat.le_of_ble_eq_true rfl) (qb_qv rfl (by decide) (by decide)) ?_
    refine go_ifeq rfl (fun e => ?_) (fun e => ?_)
    · exact g2 (qB_0.mp e)
    · exact g1 (Classical.byContradiction fun z => e (qB_f z))
  have D1 : ∀ u R, (tx_k n l b p = 2 ∧ tx_wd (tx_l n b p) = some 1 → qa_lm (qe (d' + 7)) (qa_cd qc_174) (21, [.ref 192], [], (qb_hp (qj u M), 149, c)) = R) → (¬ (tx_k n l b p = 2 ∧ tx_wd (tx_l n b p) = some 1) → qa_lm (qe (d' + 7)) (qa_cd qc_174) (26, [.ref 192], [], (qb_hp (qj u M), 149, c)) = R) → qa_lm (qe (d' + 7)) (qa_cd qc_174) (13, [.ref 192], [], (qb_hp (qj u M), 149, c)) = R := fun u R g1 g2 => by
    refine go_ald_1_0 rfl ?_
    refine go_c rfl ?_
    refine go_call2 rfl (j1 u) (Nat.le_of_ble_eq_true rfl) (qb_qv rfl (by decide) (by decide)) ?_
    refine go_ifeq rfl (fun e => ?_) (fun e => ?_)
    · exact g2 (qB_0.mp e)
    · exact g1 (Classical.byContradiction fun z => e (qB_f z))
  have D3 : ∀ u R, (tx_k n l b p = 2 ∧ tx_wd (tx_l n b p) = some 3 → qa_lm (qe (d' + 7)) (qa_cd qc_174) (34, [.ref 192], [], (qb_hp (qj u M), 149, c)) = R) → (¬ (tx_k n l b p = 2 ∧ tx_wd (tx_l n b p) = some 3) → qa_lm (qe (d' + 7)) (qa_cd qc_174) (39, [.ref 192], [], (qb_hp (qj u M), 149, c)) = R) → qa_lm (qe (d' + 7)) (qa_cd qc_174) (26, [.ref 192], [], (qb_hp (qj u M), 149, c)) = R := fun u R g1 g2 => by
    refine go_ald_1_0 rfl ?_
    refine go_c rfl ?_
    refine go_call2 rfl (j2 u) (Nat.le_of_ble_eq_true rfl) (qb_qv rfl (by decide) (by decide)) ?_
    refine go_ifeq rfl (fun e => ?_) (fun e => ?_)
    · exact g2 (qB_0.mp e)
    · exact g1 (Classical.byContradiction fun z => e (qB_f z))
  have D4 : ∀ u R, (tx_k n l b p = 2 ∧ tx_wd (tx_l n b p) = some 4 → qa_lm (qe (d' + 7)) (qa_cd qc_174) (47, [.ref 192], [], (qb_hp (qj u M), 149, c)) = R) → (¬ (tx_k n l b p = 2 ∧ tx_wd (tx_l n b p) = some 4) → qa_lm (qe (d' + 7)) (qa_cd qc_174) (78, [.ref 192], [], (qb_hp (qj u M), 149, c)) = R) → qa_lm (qe (d' + 7)) (qa_cd qc_174) (39, [.ref 192], [], (qb_hp (qj u M), 149, c)) = R := fun u R g1 g2 => by
    refine go_ald_1_0 rfl ?_
    refine go_c rfl ?_
    refine go_call2 rfl (j3 u) (Nat.le_of_ble_eq_true rfl) (qb_qv rfl (by decide) (by decide)) ?_
    refine go_ifeq rfl (fun e => ?_) (fun e => ?_)
    · exact g2 (qB_0.mp e)
    · exact g1 (Classical.byContradiction fun z => e (qB_f z))
  have r01 : ∀ {M' : qb_M} {r : Int32}, rO bF bG n l b p M M' r bE → narrow .boolean (.int r) = .int r := fun h => by
    rcases h with ⟨h, _⟩ | ⟨h, _⟩ <;> subst h <;> rfl
  by_cases h0 : tx_k n l b p = 2 ∧ tx_wd (tx_l n b p) = some 0
  · obtain ⟨M', r, g1, g2, g3⟩ := bo_wires (d + 1) (d' + 1) c hC hM h0.1 hB
    refine ⟨M', r, fun u => C0 u _ (fun _ => ?_) (fun z => absurd h0 z), fun u => D0 u _ (fun _ => ?_) (fun z => absurd h0 z), g3⟩
    · refine go_ald_2_0 rfl ?_
      refine go_ald_2_1 rfl ?_
      refine go_call2 rfl (g1 u) (Nat.le_of_ble_eq_true rfl) (qb_qv rfl (by decide) (by decide)) ?_
      exact fin_i rfl (r01 g3) rfl
    · refine go_ald_1_0 rfl ?_
      refine go_call1 rfl (g2 u) (Nat.le_of_ble_eq_true rfl) (qb_qv rfl (by decide) (by decide)) ?_
      exact fin_i rfl (r01 g3) rfl
  · by_cases h1 : tx_k n l b p = 2 ∧ tx_wd (tx_l n b p) = some 1
    · obtain ⟨M', r, g1, g2, g3⟩ := br_switch d d' c hC hM h1.1 hB
      refine ⟨M', r, fun u => C0 u _ (fun z => absurd z h0) (fun _ => C1 u _ (fun _ => ?_) (fun z => absurd h1 z)), fun u => D0 u _ (fun z => absurd z h0) (fun _ => D1 u _ (fun _ => ?_) (fun z => absurd h1 z)), g3⟩
      · refine go_ald_2_0 rfl ?_
        refine go_ald_2_1 rfl ?_
        refine go_call2 rfl (g1 u) (Nat.le_of_ble_eq_true rfl) (qb_qv rfl (by decide) (by decide)) ?_
        exact fin_i rfl (r01 g3) rfl
      · refine go_ald_1_0 rfl ?_
        refine go_call1 rfl (g2 u) (Nat.le_of_ble_eq_true rfl) (qb_qv rfl (by decide) (by decide)) ?_
        exact fin_i rfl (r01 g3) rfl
    · by_cases h3 : tx_k n l b p = 2 ∧ tx_wd (tx_l n b p) = some 3
      · obtain ⟨M', r, g1, g2, g3⟩ := br_sister d d' c hC hM h3.1 hB
        refine ⟨M', r, fun u => C0 u _ (fun z => absurd z h0) (fun _ => C1 u _ (fun z => absurd z h1) (fun _ => C3 u _ (fun _ => ?_) (fun z => absurd h3 z))), fun u => D0 u _ (fun z => absurd z h0) (fun _ => D1 u _ (fun z => absurd z h1) (fun _ => D3 u _ (fun _ => ?_) (fun z => absurd h3 z))), g3⟩
        · refine go_ald_2_0 rfl ?_
          refine go_ald_2_1 rfl ?_
          refine go_call2 rfl (g1 u) (Nat.le_of_ble_eq_true rfl) (qb_qv rfl (by decide) (by decide)) ?_
          exact fin_i rfl (r01 g3) rfl
        · refine go_ald_1_0 rfl ?_
          refine go_call1 rfl (g2 u) (Nat.le_of_ble_eq_true rfl) (qb_qv rfl (by decide) (by decide)) ?_
          exact fin_i rfl (r01 g3) rfl
      · by_cases h4 : tx_k n l b p = 2 ∧ tx_wd (tx_l n b p) = some 4
        · obtain ⟨M', r, g1, g2, g3⟩ := bo_vow (d + 1) (d' + 2) c hC hM h4.1 hB
          refine ⟨M', r, fun u => C0 u _ (fun z => absurd z h0) (fun _ => C1 u _ (fun z => absurd z h1) (fun _ => C3 u _ (fun z => absurd z h3) (fun _ => C4 u _ (fun _ => ?_) (fun z => absurd h4 z)))), fun u => D0 u _ (fun z => absurd z h0) (fun _ => D1 u _ (fun z => absurd z h1) (fun _ => D3 u _ (fun z => absurd z h3) (fun _ => D4 u _ (fun _ => g2 u) (fun z => absurd h4 z)))), g3⟩
          refine go_ald_2_0 rfl ?_
          refine go_ald_2_1 rfl ?_
          refine go_call2 rfl (g1 u) (Nat.le_of_ble_eq_true rfl) (qb_qv rfl (by decide) (by decide)) ?_
          exact fin_i rfl (r01 g3) rfl
        · refine bo_fail (A := M) (B := M) (f := 1) (pl := tx_p n l b p) (P1 := bF) (Q1 := bF) (fun u => C0 u _ (fun z => absurd z h0) (fun _ => C1 u _ (fun z => absurd z h1) (fun _ => C3 u _ (fun z => absurd z h3) (fun _ => C4 u _ (fun z => absurd z h4) (fun _ => ?_))))) (fun u => D0 u _ (fun z => absurd z h0) (fun _ => D1 u _ (fun z => absurd z h1) (fun _ => D3 u _ (fun z => absurd z h3) (fun _ => D4 u _ (fun z => absurd z h4) (fun _ => ?_))))) (tx_p9 hC) qG.rf qG.rf (fun x j h => bG_of h)
          · refine go_ald_2_1 rfl ?_
            refine go_c rfl ?_
            refine go_call2 rfl (pc_fail (d + 5) c hC 1 u) (Nat.le_of_ble_eq_true rfl) (qb_qv rfl (by decide) (by decide)) ?_
            exact fin_i rfl rfl rfl
          · have hb := pm_bad (d' + 6) c hM 1 u
            rw [ite_self] at hb
            refine go_ald_1_0 rfl ?_
            refine go_c rfl ?_
            refine go_call2 rfl (hb) (Nat.le_of_ble_eq_true rfl) (qb_qv rfl (by decide) (by decide)) ?_
            exact fin_i rfl rfl rfl
