/-! a book's line: its verb, a switch's name -/
def kP (A B : qb_M) (nm : Nat) : Prop := A.1 67 6 = nI nm ∧ B.1 194 1 = nI nm ∧ nm ≤ 10 ∧ ∀ k, k < nm → qn (A.2.1 70 k) (B.2.1 199 k)
theorem bk_name (d d' : Nat) (c : Nat × Nat) {A B : qb_M} {n l : Nat} {b : Nat → Nat} {p : Nat} (hC : rC A n l b p) (hM : rM B n l b p) {L nm : Nat} (h5 : A.1 133 5 = nI L) (hL : L < 40) (hN : kP A B nm) (j : Nat) (hj : j < 200) : (tx_k n l b p = 2 ∧ ∃ x A' B', x < nm ∧ (∀ u, qe (d + 5) 136 [.ref 133, .ref 65, .ref 67] (qb_hp (qj A u), 149, c) = some (some (.int (1)), (qb_hp (qj A' u), 149, c))) ∧ (∀ u, qe (d' + 5) 274 [.ref 192, .int (nI 0), .int (nI nm)] (qb_hp (qj u B), 149, c) = some (some (.int (1)), (qb_hp (qj u B'), 149, c))) ∧ (∀ u, qe (d' + 5) 272 [.ref 192, .int (nI j), .int 1] (qb_hp (qj u B'), 149, c) = some (some (.int (1)), (qb_hp (qj u (qb_ui B' 209 j (nI x))), 149, c))) ∧ rC A' n l b (tx_e n l b p) ∧ rM (qb_ui B' 209 j (nI x)) n l b (tx_e n l b p) ∧ A'.1 135 L = nI x ∧ qG (fun x k => x = 65 ∧ 5 ≤ k ∧ k ≤ 10 ∨ x = 135 ∧ k = L) A A' ∧ qG (fun x k => x = 192 ∧ (5 ≤ k ∧ k ≤ 9 ∨ k = 12 ∨ k = 13) ∨ x = 209 ∧ k = j) B (qb_ui B' 209 j (nI x))) ∨ ∃ f B', qG (fun x k => x = 192 ∧ k = 13) B B' ∧ (∀ u, qe (d + 5) 136 [.ref 133, .ref 65, .ref 67] (qb_hp (qj A u), 149, c) = some (some (.int (0)), (qb_hp (qj (fC A f (tx_p n l b p)) u), 149, c))) ∧ ∀ u, qe (d' + 5) 274 [.ref 192, .int (nI 0), .int (nI nm)] (qb_hp (qj u B), 149, c) = some (some (.int (0)), (qb_hp (qj u (fM B' f (tx_p n l b p))), 149, c)) := by
  obtain ⟨n6, n1, n10, nn⟩ := hN
  have hv : ∀ (s : qb_M) (As : List Value), qv_o 4 (qb_hp s, 149, c) (.ref 67 :: As) = true := fun s As => qb_qv qP_67.1 qP_67.2.2.1 qP_67.2.2.2
  by_cases hnm : tx_k n l b p = 2 ∧ tx_wd (tx_l n b p) = none
  · have hok := tx_l_ok hC.1 hnm.1
    have hL9 : ∀ u, (qj A u).2.1 65 9 = lN (qn_32 (tx_l n b p)) := fun u => (hC.2.2.2.2.2.1 hnm.1).1
    have hW : ∀ u, (qj u B).2.1 192 12 = lN (qn_27 (tx_l n b p)) := fun u => hM.2.2.2.2.2.2.1 hnm.1
    have i1 : tx_ix (A.2.1 70) nm (lN (qn_32 (tx_l n b p))) = tx_ix (fun k => B.2.1 199 (0 + k)) nm (lN (qn_27 (tx_l n b p))) := tx_ix_cong (fun k hk => by rw [Nat.zero_add]; exact qn_same (nn k hk) hok)
    have cS : ∀ u, qe (d + 4) 35 [.ref 67, .long (lN (qn_32 (tx_l n b p)))] (qb_hp (qj A u), 149, c) = some (some (.int (tx_ix (A.2.1 70) nm (lN (qn_32 (tx_l n b p))))), (qb_hp (qj A u), 149, c)) := fun u => sp_switchNamed (d + 2) (qj A u) c qP_67 (show (qj A u).1 67 6 = nI nm from n6) n10 _
    have cI := pc_isSwitchName d c hC qP_67 (by decide) n6 n10
    have mS : ∀ u, qe (d' + 4) 188 [.ref 199, .int (nI 0), .int (nI nm), .long (lN (qn_27 (tx_l n b p)))] (qb_hp (qj u B), 149, c) = some (some (.int (tx_ix (fun k => B.2.1 199 (0 + k)) nm (lN (qn_27 (tx_l n b p))))), (qb_hp (qj u B), 149, c)) := fun u => sp_findIn (d' + 3) (qj u B) c (a := 199) (N := 15) ⟨rfl, by decide, by decide, by decide⟩ (by omega) _
    rw [← i1] at mS
    have ho : tx_ix (A.2.1 70) nm (lN (qn_32 (tx_l n b p))) = -1 ∨ ∃ z, z < nm ∧ tx_ix (A.2.1 70) nm (lN (qn_32 (tx_l n b p))) = nI z := tx_ix_or
    have cI1 : tx_ix (A.2.1 70) nm (lN (qn_32 (tx_l n b p))) ≠ -1 → ∀ u, qe (d + 4) 39 [.ref 67, .ref 65] (qb_hp (qj A u), 149, c) = some (some (.int (1)), (qb_hp (qj A u), 149, c)) := fun h u => (cI u).1 hnm h
    have cI2 : tx_ix (A.2.1 70) nm (lN (qn_32 (tx_l n b p))) = -1 → ∀ u, qe (d + 4) 39 [.ref 67, .ref 65] (qb_hp (qj A u), 149, c) = some (some (.int (0)), (qb_hp (qj (fC A 3 (tx_p n l b p)) u), 149, c)) := fun h u => (cI u).2.1 hnm h
    generalize tx_ix (A.2.1 70) nm (lN (qn_32 (tx_l n b p))) = I1 at cS mS cI1 cI2 ho
    have enM : ∀ u R, qa_lm (qe (d' + 4)) (qa_cd qc_274) (30, [.ref 192, .int (nI 0), .int (nI nm)], [], (qb_hp (qj u (qb_ui B 192 13 I1)), 149, c)) = R → qe (d' + 5) 274 [.ref 192, .int (nI 0), .int (nI nm)] (qb_hp (qj u B), 149, c) = R := fun u R hR => by
      refine (en_274 (d' + 4) 192 (nI 0) (nI nm) _).trans ?_
      refine go_ald_3_0 rfl ?_
      refine go_call1 rfl (pm_isName (d' + 1) c hM u) (Nat.le_of_ble_eq_true rfl) (qb_qv rfl (by decide) (by decide)) ?_
      refine go_ifne rfl (fun e => ?_) (fun e => ?_)
      · exact absurd hnm (qB_0.mp e)
      · refine go_ald_3_0 rfl ?_
        refine go_ald_3_0 rfl ?_
        refine go_getr rfl ⟨_, rfl, rfl, by decide, by decide⟩ ?_
        refine go_ild_3_1 rfl ?_
        refine go_ild_3_2 rfl ?_
        refine go_ald_3_0 rfl ?_
        refine go_getl rfl ⟨_, rfl, rfl, by decide, by decide⟩ ?_
        rw [hW]
        refine go_call4 rfl (mS u) (Nat.le_of_ble_eq_true rfl) rfl ?_
        refine go_puti rfl ⟨_, rfl, rfl, by decide, by decide⟩ rfl rfl ?_
        rw [qj_UI (by decide)]
        exact hR
    rcases ho with hI | ⟨z, hz, hI⟩
    · subst hI
      refine Or.inr ⟨3, qb_ui B 192 13 (-1), qG.rf.ui (by omega), fun u => ?_, fun u => enM u _ ?_⟩
      · refine (en_136 (d + 4) 133 65 67 _).trans ?_
        refine go_ald_3_2 rfl ?_
        refine go_ald_3_1 rfl ?_
        refine go_call2 rfl (cI2 rfl u) (Nat.le_of_ble_eq_true rfl) (hv _ _) ?_
        refine go_ifne rfl (fun e => ?_) (fun e => ?_)
        · refine go_c rfl ?_
          exact fin_i rfl rfl rfl
        · exact absurd rfl e
      · have hb := pm_bad (d' + 3) c (hM.mv (P := fun x k => x = 192 ∧ k = 13) (N := qb_ui B 192 13 (-1)) (qG.rf.ui ⟨rfl, rfl⟩) (fun x k h => by omega)) 3 u
        rw [if_neg (by omega)] at hb
        refine go_ald_3_0 rfl ?_
        refine go_geti rfl ⟨_, rfl, rfl, by decide, by decide⟩ ?_
        rw [show (qj u (qb_ui B 192 13 (-1))).1 192 13 = -1 from (qj_I (by decide)).trans qb_ui_1s]
        refine go_c rfl ?_
        refine go_icne rfl (fun e => ?_) (fun e => ?_)
        · refine go_ald_3_0 rfl ?_
          refine go_c rfl ?_
          refine go_call2 rfl (hb) (Nat.le_of_ble_eq_true rfl) (qb_qv rfl (by decide) (by decide)) ?_
          exact fin_i rfl rfl rfl
        · exact absurd rfl e
    · have hI1 : I1 ≠ -1 := by rw [hI]; exact nI_m1 (by omega)
      subst hI
      obtain ⟨A', e1, e2, e3⟩ := pc_step (d + 1) c (hC.mv (P := fun x k => x = 135) (N := qb_ui A 135 L (nI z)) (qG.rf.ui rfl) (fun x k h => by omega))
      obtain ⟨B', m1, m2, m3⟩ := pm_go (d' + 1) c (hM.mv (P := fun x k => x = 192 ∧ k = 13) (N := qb_ui B 192 13 (nI z)) (qG.rf.ui ⟨rfl, rfl⟩) (fun x k h => by omega))
      have b13 : B'.1 192 13 = nI z := (m3.i (by omega)).trans qb_ui_1s
      refine Or.inl ⟨hnm.1, z, A', B', hz, fun u => ?_, fun u => enM u _ ?_, fun u => ?_, e2, m2.mv (P := fun x k => x = 209) (qG.rf.ui rfl) (fun x k h => by omega), (e3.i (by omega)).trans qb_ui_1s, (qG.rf.ui (by omega)).tr (e3.mo (fun x k h => by omega)), ((qG.rf.ui (by omega)).tr (m3.mo (fun x k h => by omega))).ui (by omega)⟩
      · refine (en_136 (d + 4) 133 65 67 _).trans ?_
        refine go_ald_3_2 rfl ?_
        refine go_ald_3_1 rfl ?_
        refine go_call2 rfl (cI1 hI1 u) (Nat.le_of_ble_eq_true rfl) (hv _ _) ?_
        refine go_ifne rfl (fun e => ?_) (fun e => ?_)
        · exact absurd e (by decide)
        · refine go_ald_3_0 rfl ?_
          refine go_getr rfl ⟨_, rfl, rfl, by decide, by decide⟩ ?_
          refine go_ald_3_0 rfl ?_
          refine go_geti rfl ⟨_, rfl, rfl, by decide, by decide⟩ ?_
          rw [show (qj A u).1 133 5 = nI L from h5]
          refine go_ald_3_2 rfl ?_
          refine go_ald_3_1 rfl ?_
          refine go_getl rfl ⟨_, rfl, rfl, by decide, by decide⟩ ?_
          rw [hL9]
          refine go_call2 rfl (cS u) (Nat.le_of_ble_eq_true rfl) (hv _ _) ?_
          refine go_iast (j := L) rfl (⟨rfl, by decide, by decide, by decide⟩) (rfl) (by omega) ?_
          rw [qj_ui (by decide)]
          refine go_ald_3_1 rfl ?_
          refine go_call1 rfl (e1 u) (Nat.le_of_ble_eq_true rfl) (qb_qv rfl (by decide) (by decide)) ?_
          refine go_c rfl ?_
          exact fin_i rfl rfl rfl
      · refine go_ald_3_0 rfl ?_
        refine go_geti rfl ⟨_, rfl, rfl, by decide, by decide⟩ ?_
        rw [show (qj u (qb_ui B 192 13 (nI z))).1 192 13 = nI z from (qj_I (by decide)).trans qb_ui_1s]
        refine go_c rfl ?_
        refine go_icne rfl (fun e => ?_) (fun e => ?_)
        · exact absurd e hI1
        · refine go_ald_3_0 rfl ?_
          refine go_call1 rfl (m1 u) (Nat.le_of_ble_eq_true rfl) (qb_qv rfl (by decide) (by decide)) ?_
          refine go_c rfl ?_
          exact fin_i rfl rfl rfl
      · have := pm_keep1 (d' + 4) (qj u B') c j hj
        rw [show (qj u B').1 192 13 = nI z from b13, qj_UI (by decide)] at this
        exact this
  · refine Or.inr ⟨1, B, qG.rf, fun u => ?_, fun u => ?_⟩
    · have cI := (pc_isSwitchName d c hC qP_67 (by decide) n6 n10 u).2.2 hnm
      refine (en_136 (d + 4) 133 65 67 _).trans ?_
      refine go_ald_3_2 rfl ?_
      refine go_ald_3_1 rfl ?_
      refine go_call2 rfl (cI) (Nat.le_of_ble_eq_true rfl) (hv _ _) ?_
      refine go_ifne rfl (fun e => ?_) (fun e => ?_)
      · refine go_c rfl ?_
        exact fin_i rfl rfl rfl
      · exact absurd rfl e
    · have hb := pm_bad (d' + 3) c hM 1 u
      rw [ite_self] at hb
      refine (en_274 (d' + 4) 192 (nI 0) (nI nm) _).trans ?_
      refine go_ald_3_0 rfl ?_
      refine go_call1 rfl (pm_isName (d' + 1) c hM u) (Nat.le_of_ble_eq_true rfl) (qb_qv rfl (by decide) (by decide)) ?_
      refine go_ifne rfl (fun e => ?_) (fun e => ?_)
      · refine go_ald_3_0 rfl ?_
        refine go_c rfl ?_
        refine go_call2 rfl (hb) (Nat.le_of_ble_eq_true rfl) (qb_qv rfl (by decide) (by decide)) ?_
        exact fin_i rfl rfl rfl
      · exact absurd (qB_f hnm) e
/-- the word of a verb -/
def kw (v : Nat) : Nat := [5, 8, 9, 10, 11, 12].getD v 0
theorem kw_inj {v w : Nat} (hv : v ≤ 5) (hw : w ≤ 5) (h : kw v = kw w) : v = w := by
  have : ∀ v : Fin 6, ∀ w : Fin 6, kw v.1 = kw w.1 → v.1 = w.1 := by decide
  exact this ⟨v, by omega⟩ ⟨w, by omega⟩ h
abbrev kh (n l : Nat) (b : Nat → Nat) (p v : Nat) : Prop := tx_k n l b p = 2 ∧ tx_wd (tx_l n b p) = some (kw v)
theorem kh_one {n l : Nat} {b : Nat → Nat} {p v w : Nat} (hv : v ≤ 5) (hw : w ≤ 5) (h1 : kh n l b p v) (h2 : kh n l b p w) : v = w := kw_inj hv hw (Option.some.inj (h1.2.symm.trans h2.2))
theorem pc_verbAt (d : Nat) (c : Nat × Nat) {A : qb_M} {n l : Nat} {b : Nat → Nat} {p : Nat} (hC : rC A n l b p) (r : Int32) (hr : ∀ v, v ≤ 5 → kh n l b p v → r = nI v) (hr1 : (∀ v, v ≤ 5 → ¬ kh n l b p v) → r = -1) (u : qb_M) : qe (d + 2) 133 [.ref 65] (qb_hp (qj A u), 149, c) = some (some (.int (r)), (qb_hp (qj A u), 149, c)) := by
  have kw9 : ∀ v, v ≤ 5 → kw v < 23 := fun v hv => by
    have : ∀ v : Fin 6, kw v.1 < 23 := by decide
    exact this ⟨v, by omega⟩
  have q : ∀ v, v ≤ 5 → qe (d + 1) 28 [.ref 65, .ref (kw v)] (qb_hp (qj A u), 149, c) = some (some (.int (qB (kh n l b p v))), (qb_hp (qj A u), 149, c)) := fun v hv => pc_isAt d c hC (kw v) (kw9 v hv) u
  have q0 : qe (d + 1) 28 [.ref 65, .ref 5] (qb_hp (qj A u), 149, c) = _ := q 0 (by decide)
  have q1 : qe (d + 1) 28 [.ref 65, .ref 8] (qb_hp (qj A u), 149, c) = _ := q 1 (by decide)
  have q2 : qe (d + 1) 28 [.ref 65, .ref 9] (qb_hp (qj A u), 149, c) = _ := q 2 (by decide)
  have q3 : qe (d + 1) 28 [.ref 65, .ref 10] (qb_hp (qj A u), 149, c) = _ := q 3 (by decide)
  have q4 : qe (d + 1) 28 [.ref 65, .ref 11] (qb_hp (qj A u), 149, c) = _ := q 4 (by decide)
  have q5 : qe (d + 1) 28 [.ref 65, .ref 12] (qb_hp (qj A u), 149, c) = _ := q 5 (by decide)
  have g : ∀ v, v ≤ 5 → ¬ qB (kh n l b p v) = 0 → nI v = r := fun v hv e => (hr v hv (Classical.byContradiction fun z => e (qB_f z))).symm
  refine (en_133 (d + 1) 65 _).trans ?_
  refine go_ald_1_0 rfl ?_
  refine go_c rfl ?_
  refine go_call2 rfl (q0) (Nat.le_of_ble_eq_true rfl) (qb_qv rfl (by decide) (by decide)) ?_
  refine go_ifeq rfl (fun e0 => ?_) (fun e0 => ?_)
  · refine go_ald_1_0 rfl ?_
    refine go_c rfl ?_
    refine go_call2 rfl (q1) (Nat.le_of_ble_eq_true rfl) (qb_qv rfl (by decide) (by decide)) ?_
    refine go_ifeq rfl (fun e1 => ?_) (fun e1 => ?_)
    · refine go_ald_1_0 rfl ?_
      refine go_c rfl ?_
      refine go_call2 rfl (q2) (Nat.le_of_ble_eq_true rfl) (qb_qv rfl (by decide) (by decide)) ?_
      refine go_ifeq rfl (fun e2 => ?_) (fun e2 => ?_)
      · refine go_ald_1_0 rfl ?_
        refine go_c rfl ?_
        refine go_call2 rfl (q3) (Nat.le_of_ble_eq_true rfl) (qb_qv rfl (by decide) (by decide)) ?_
        refine go_ifeq rfl (fun e3 => ?_) (fun e3 => ?_)
        · refine go_ald_1_0 rfl ?_
          refine go_c rfl ?_
          refine go_call2 rfl (q4) (Nat.le_of_ble_eq_true rfl) (qb_qv rfl (by decide) (by decide)) ?_
          refine go_ifeq rfl (fun e4 => ?_) (fun e4 => ?_)
          · refine go_ald_1_0 rfl ?_
            refine go_c rfl ?_
            refine go_call2 rfl (q5) (Nat.le_of_ble_eq_true rfl) (qb_qv rfl (by decide) (by decide)) ?_
            refine go_ifeq rfl (fun e5 => ?_) (fun e5 => ?_)
            · refine go_c rfl ?_
              rw [hr1 (fun v hv => by
                have hh : v = 0 ∨ v = 1 ∨ v = 2 ∨ v = 3 ∨ v = 4 ∨ v = 5 := by omega
                rcases hh with z | z | z | z | z | z <;> subst z
                · exact qB_0.mp e0
                · exact qB_0.mp e1
                · exact qB_0.mp e2
                · exact qB_0.mp e3
                · exact qB_0.mp e4
                · exact qB_0.mp e5)]
              exact fin_i rfl rfl rfl
            · rw [← g 5 (by decide) e5]
              refine go_c rfl ?_
              refine go_goto rfl ?_
              exact fin_i rfl rfl rfl
          · rw [← g 4 (by decide) e4]
            refine go_c rfl ?_
            exact fin_i rfl rfl rfl
        · rw [← g 3 (by decide) e3]
          refine go_c rfl ?_
          exact fin_i rfl rfl rfl
      · rw [← g 2 (by decide) e2]
        refine go_c rfl ?_
        exact fin_i rfl rfl rfl
    · rw [← g 1 (by decide) e1]
      refine go_c rfl ?_
      exact fin_i rfl rfl rfl
  · rw [← g 0 (by decide) e0]
    refine go_c rfl ?_
    exact fin_i rfl rfl rfl
