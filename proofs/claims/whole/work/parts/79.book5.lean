/-! a line of a book: its kinds -/
theorem bk_k1 (d d' : Nat) (c : Nat × Nat) {M A1 B1 : qb_M} {n l : Nat} {b : Nat → Nat} {p p1 : Nat} (hp : p < p1) (hA : rC A1 n l b p1) (hB : rM B1 n l b p1) {L nm : Nat} (hL : L < 40) (h5 : A1.1 133 5 = nI L) (hvA : A1.1 134 L = nI 1) (hvB : B1.1 209 (5 * L) = nI 1) (gA : qG (kQ L) M A1) (gB : qG (kQ L) M B1) (eA : ∀ u R, qa_lm (qe (d + 7)) (qa_cd qc_132) (85, [.ref 133, .ref 65, .ref 67, .int (nI 1)], [], (qb_hp (qj A1 u), 149, c)) = R → qe (d + 8) 132 [.ref 133, .ref 65, .ref 67] (qb_hp (qj M u), 149, c) = R) (eB : ∀ u R, qa_lm (qe (d' + 7)) (qa_cd qc_270) (102, [.ref 192, .int (nI 1), .int (nI (5 * L)), .int (nI 5)], [], (qb_hp (qj u B1), 149, c)) = R → qe (d' + 8) 270 [.ref 192] (qb_hp (qj u M), 149, c) = R) : kZ d d' c M n l b p L nm := by
  rcases bk_num (d + 2) (d' + 2) c hA hB h5 hL 135 (Or.inl rfl) (5 * L + 1) (by omega) 0 7 with ⟨k1, r1, A2, B2, a1, a2, a3, a4, a5, a6, a7, a8⟩ | ⟨f, f1, f2⟩
  · have x9 := tx_rng (x := 0) (y := 7) (tx_n9 k1) (by decide) (by decide) r1
    have e1 := tx_e_lt hA.1 (by omega) (by omega : tx_k n l b p1 ≠ 1)
    generalize tx_n n b p1 = x at a3 a5 a6 a8 x9
    obtain ⟨N1, hN1⟩ : ∃ N1, N1 = qb_ui B2 209 (5 * L + 1) (nI x) := ⟨_, rfl⟩
    have b9 : N1.1 209 (5 * L + 1) = nI x := by rw [hN1]; exact qb_ui_1s
    rw [← hN1] at a3 a5 a8
    refine kZ_good (A := A2) (B := N1) (p' := tx_e n l b p1) (fun u => eA u _ ?_) (fun u b0 N hb hN => eB u _ ?_) (by omega) a4 a5 ?_ (gA.tr (a7.mo (fun x k h => by unfold kQ; omega))) (gB.tr (a8.mo (fun x k h => by unfold kQ; omega)))
    · refine go_ild_4_3 rfl ?_
      refine go_sw2 (n := 126) rfl (by decide +kernel) ?_
      refine go_ald_4_0 rfl ?_
      refine go_ald_4_1 rfl ?_
      refine go_ald_4_0 rfl ?_
      refine go_getr rfl ⟨_, rfl, rfl, by decide, by decide⟩ ?_
      refine go_c rfl ?_
      refine go_c rfl ?_
      refine go_call5 rfl (a1 u) (Nat.le_of_ble_eq_true rfl) (qb_qv rfl (by decide) (by decide)) ?_
      exact fin_i rfl rfl rfl
    · refine go_ild_4_1 rfl ?_
      refine go_sw2 (n := 157) rfl (by decide +kernel) ?_
      refine go_ald_4_0 rfl ?_
      refine go_ild_4_2 rfl ?_
      refine go_c rfl ?_
      refine go_iadd rfl ?_
      rw [nI_1]
      refine go_ald_4_0 rfl ?_
      refine go_c rfl ?_
      refine go_c rfl ?_
      refine go_call3 rfl (a2 u) (Nat.le_of_ble_eq_true rfl) (qb_qv rfl (by decide) (by decide)) ?_
      refine go_call3 rfl (a3 u) (Nat.le_of_ble_eq_true rfl) (qb_qv rfl (by decide) (by decide)) ?_
      refine go_ifeq rfl (fun e => ?_) (fun e => ?_)
      · exact absurd e (by decide)
      · refine go_ald_4_0 rfl ?_
        refine go_call1 rfl (hN) (Nat.le_of_ble_eq_true rfl) (qb_qv rfl (by decide) (by decide)) ?_
        rcases hb with hb | hb
        · subst hb
          refine go_ifeq rfl (fun e2 => ?_) (fun e2 => ?_)
          · refine go_c rfl ?_
            exact fin_i rfl rfl rfl
          · exact absurd rfl e2
        · subst hb
          refine go_ifeq rfl (fun e2 => ?_) (fun e2 => ?_)
          · exact absurd e2 (by decide)
          · refine go_c rfl ?_
            refine go_goto rfl ?_
            exact fin_i rfl rfl rfl
    · exact ⟨hL, Or.inr (Or.inl ⟨(a7.i (by omega)).trans hvA, (a8.i (by omega)).trans hvB, x, x9.2, a6, b9⟩)⟩
  · refine kZ_fail (A := A1) (B := B1) (f := f) (pl := tx_p n l b p1) (fun u => eA u _ ?_) (fun u => eB u _ ?_) (tx_p9 hA) (gA.mo (fun x k h => kQ_F h)) (gB.mo (fun x k h => kQ_F h))
    · refine go_ild_4_3 rfl ?_
      refine go_sw2 (n := 126) rfl (by decide +kernel) ?_
      refine go_ald_4_0 rfl ?_
      refine go_ald_4_1 rfl ?_
      refine go_ald_4_0 rfl ?_
      refine go_getr rfl ⟨_, rfl, rfl, by decide, by decide⟩ ?_
      refine go_c rfl ?_
      refine go_c rfl ?_
      refine go_call5 rfl (f1 u) (Nat.le_of_ble_eq_true rfl) (qb_qv rfl (by decide) (by decide)) ?_
      exact fin_i rfl rfl rfl
    · refine go_ild_4_1 rfl ?_
      refine go_sw2 (n := 157) rfl (by decide +kernel) ?_
      refine go_ald_4_0 rfl ?_
      refine go_ild_4_2 rfl ?_
      refine go_c rfl ?_
      refine go_iadd rfl ?_
      rw [nI_1]
      refine go_ald_4_0 rfl ?_
      refine go_c rfl ?_
      refine go_c rfl ?_
      refine go_call3 rfl (f2 u) (Nat.le_of_ble_eq_true rfl) (qb_qv rfl (by decide) (by decide)) ?_
      refine go_call3 rfl (pm_keep0 (d' + 6) _ c _) (Nat.le_of_ble_eq_true rfl) (qb_qv rfl (by decide) (by decide)) ?_
      refine go_ifeq rfl (fun e => ?_) (fun e => ?_)
      · refine go_c rfl ?_
        exact fin_i rfl rfl rfl
      · exact absurd rfl e
theorem bk_k5 (d d' : Nat) (c : Nat × Nat) {M A1 B1 : qb_M} {n l : Nat} {b : Nat → Nat} {p p1 : Nat} (hp : p < p1) (hA : rC A1 n l b p1) (hB : rM B1 n l b p1) {L nm : Nat} (hL : L < 40) (h5 : A1.1 133 5 = nI L) (hvA : A1.1 134 L = nI 5) (hvB : B1.1 209 (5 * L) = nI 5) (gA : qG (kQ L) M A1) (gB : qG (kQ L) M B1) (eA : ∀ u R, qa_lm (qe (d + 7)) (qa_cd qc_132) (85, [.ref 133, .ref 65, .ref 67, .int (nI 5)], [], (qb_hp (qj A1 u), 149, c)) = R → qe (d + 8) 132 [.ref 133, .ref 65, .ref 67] (qb_hp (qj M u), 149, c) = R) (eB : ∀ u R, qa_lm (qe (d' + 7)) (qa_cd qc_270) (102, [.ref 192, .int (nI 5), .int (nI (5 * L)), .int (nI 5)], [], (qb_hp (qj u B1), 149, c)) = R → qe (d' + 8) 270 [.ref 192] (qb_hp (qj u M), 149, c) = R) : kZ d d' c M n l b p L nm := by
  rcases bk_num (d + 2) (d' + 2) c hA hB h5 hL 137 (Or.inr (Or.inr rfl)) (5 * L + 1) (by omega) 1 60 with ⟨k1, r1, A2, B2, a1, a2, a3, a4, a5, a6, a7, a8⟩ | ⟨f, f1, f2⟩
  · have x9 := tx_rng (x := 1) (y := 60) (tx_n9 k1) (by decide) (by decide) r1
    have e1 := tx_e_lt hA.1 (by omega) (by omega : tx_k n l b p1 ≠ 1)
    generalize tx_n n b p1 = x at a3 a5 a6 a8 x9
    obtain ⟨N1, hN1⟩ : ∃ N1, N1 = qb_ui B2 209 (5 * L + 1) (nI x) := ⟨_, rfl⟩
    have b9 : N1.1 209 (5 * L + 1) = nI x := by rw [hN1]; exact qb_ui_1s
    rw [← hN1] at a3 a5 a8
    refine kZ_good (A := A2) (B := N1) (p' := tx_e n l b p1) (fun u => eA u _ ?_) (fun u b0 N hb hN => eB u _ ?_) (by omega) a4 a5 ?_ (gA.tr (a7.mo (fun x k h => by unfold kQ; omega))) (gB.tr (a8.mo (fun x k h => by unfold kQ; omega)))
    · refine go_ild_4_3 rfl ?_
      refine go_sw2 (n := 139) rfl (by decide +kernel) ?_
      refine go_ald_4_0 rfl ?_
      refine go_ald_4_1 rfl ?_
      refine go_ald_4_0 rfl ?_
      refine go_getr rfl ⟨_, rfl, rfl, by decide, by decide⟩ ?_
      refine go_c rfl ?_
      refine go_c rfl ?_
      refine go_call5 rfl (a1 u) (Nat.le_of_ble_eq_true rfl) (qb_qv rfl (by decide) (by decide)) ?_
      exact fin_i rfl rfl rfl
    · refine go_ild_4_1 rfl ?_
      refine go_sw2 (n := 187) rfl (by decide +kernel) ?_
      refine go_ald_4_0 rfl ?_
      refine go_ild_4_2 rfl ?_
      refine go_c rfl ?_
      refine go_iadd rfl ?_
      rw [nI_1]
      refine go_ald_4_0 rfl ?_
      refine go_c rfl ?_
      refine go_c rfl ?_
      refine go_call3 rfl (a2 u) (Nat.le_of_ble_eq_true rfl) (qb_qv rfl (by decide) (by decide)) ?_
      refine go_call3 rfl (a3 u) (Nat.le_of_ble_eq_true rfl) (qb_qv rfl (by decide) (by decide)) ?_
      refine go_ifeq rfl (fun e => ?_) (fun e => ?_)
      · exact absurd e (by decide)
      · refine go_ald_4_0 rfl ?_
        refine go_call1 rfl (hN) (Nat.le_of_ble_eq_true rfl) (qb_qv rfl (by decide) (by decide)) ?_
        rcases hb with hb | hb
        · subst hb
          refine go_ifeq rfl (fun e2 => ?_) (fun e2 => ?_)
          · refine go_c rfl ?_
            exact fin_i rfl rfl rfl
          · exact absurd rfl e2
        · subst hb
          refine go_ifeq rfl (fun e2 => ?_) (fun e2 => ?_)
          · exact absurd e2 (by decide)
          · refine go_c rfl ?_
            refine go_goto rfl ?_
            exact fin_i rfl rfl rfl
    · exact ⟨hL, Or.inr (Or.inr (Or.inr ⟨(a7.i (by omega)).trans hvA, (a8.i (by omega)).trans hvB, x, x9.1, x9.2, a6, b9⟩))⟩
  · refine kZ_fail (A := A1) (B := B1) (f := f) (pl := tx_p n l b p1) (fun u => eA u _ ?_) (fun u => eB u _ ?_) (tx_p9 hA) (gA.mo (fun x k h => kQ_F h)) (gB.mo (fun x k h => kQ_F h))
    · refine go_ild_4_3 rfl ?_
      refine go_sw2 (n := 139) rfl (by decide +kernel) ?_
      refine go_ald_4_0 rfl ?_
      refine go_ald_4_1 rfl ?_
      refine go_ald_4_0 rfl ?_
      refine go_getr rfl ⟨_, rfl, rfl, by decide, by decide⟩ ?_
      refine go_c rfl ?_
      refine go_c rfl ?_
      refine go_call5 rfl (f1 u) (Nat.le_of_ble_eq_true rfl) (qb_qv rfl (by decide) (by decide)) ?_
      exact fin_i rfl rfl rfl
    · refine go_ild_4_1 rfl ?_
      refine go_sw2 (n := 187) rfl (by decide +kernel) ?_
      refine go_ald_4_0 rfl ?_
      refine go_ild_4_2 rfl ?_
      refine go_c rfl ?_
      refine go_iadd rfl ?_
      rw [nI_1]
      refine go_ald_4_0 rfl ?_
      refine go_c rfl ?_
      refine go_c rfl ?_
      refine go_call3 rfl (f2 u) (Nat.le_of_ble_eq_true rfl) (qb_qv rfl (by decide) (by decide)) ?_
      refine go_call3 rfl (pm_keep0 (d' + 6) _ c _) (Nat.le_of_ble_eq_true rfl) (qb_qv rfl (by decide) (by decide)) ?_
      refine go_ifeq rfl (fun e => ?_) (fun e => ?_)
      · refine go_c rfl ?_
        exact fin_i rfl rfl rfl
      · exact absurd rfl e
theorem bk_kN (d d' : Nat) (c : Nat × Nat) {M A1 B1 : qb_M} {n l : Nat} {b : Nat → Nat} {p p1 : Nat} (hp : p < p1) (hA : rC A1 n l b p1) (hB : rM B1 n l b p1) {v L nm : Nat} (hv : v = 2 ∨ v = 3 ∨ v = 4) (hN : kP A1 B1 nm) (hL : L < 40) (h5 : A1.1 133 5 = nI L) (hvA : A1.1 134 L = nI v) (hvB : B1.1 209 (5 * L) = nI v) (gA : qG (kQ L) M A1) (gB : qG (kQ L) M B1) (eA : ∀ u R, qa_lm (qe (d + 7)) (qa_cd qc_132) (85, [.ref 133, .ref 65, .ref 67, .int (nI v)], [], (qb_hp (qj A1 u), 149, c)) = R → qe (d + 8) 132 [.ref 133, .ref 65, .ref 67] (qb_hp (qj M u), 149, c) = R) (eB : ∀ u R, qa_lm (qe (d' + 7)) (qa_cd qc_270) (102, [.ref 192, .int (nI v), .int (nI (5 * L)), .int (nI 5)], [], (qb_hp (qj u B1), 149, c)) = R → qe (d' + 8) 270 [.ref 192] (qb_hp (qj u M), 149, c) = R) : kZ d d' c M n l b p L nm := by
  have eA2 : ∀ u R, qa_lm (qe (d + 7)) (qa_cd qc_132) (152, [.ref 133, .ref 65, .ref 67, .int (nI v)], [], (qb_hp (qj A1 u), 149, c)) = R → qe (d + 8) 132 [.ref 133, .ref 65, .ref 67] (qb_hp (qj M u), 149, c) = R := fun u R hR => eA u R (by
    rcases hv with hv | hv | hv <;> subst hv
    · refine go_ild_4_3 rfl ?_
      refine go_sw2 (n := 152) rfl (by decide +kernel) ?_
      exact hR
    · refine go_ild_4_3 rfl ?_
      refine go_sw2 (n := 152) rfl (by decide +kernel) ?_
      exact hR
    · refine go_ild_4_3 rfl ?_
      refine go_sw2 (n := 152) rfl (by decide +kernel) ?_
      exact hR)
  have eB2 : ∀ u R, qa_lm (qe (d' + 7)) (qa_cd qc_270) (217, [.ref 192, .int (nI v), .int (nI (5 * L)), .int (nI 5)], [], (qb_hp (qj u B1), 149, c)) = R → qe (d' + 8) 270 [.ref 192] (qb_hp (qj u M), 149, c) = R := fun u R hR => eB u R (by
    rcases hv with hv | hv | hv <;> subst hv
    · refine go_ild_4_1 rfl ?_
      refine go_sw2 (n := 217) rfl (by decide +kernel) ?_
      exact hR
    · refine go_ild_4_1 rfl ?_
      refine go_sw2 (n := 217) rfl (by decide +kernel) ?_
      exact hR
    · refine go_ild_4_1 rfl ?_
      refine go_sw2 (n := 217) rfl (by decide +kernel) ?_
      exact hR)
  have hNm : B1.1 194 1 = nI nm := hN.2.1
  rcases bk_name (d + 2) (d' + 2) c hA hB h5 hL hN (5 * L + 1) (by omega) with ⟨k1, x, A2, B2, hx, a1, a2, a3, a4, a5, a6, a7, a8⟩ | ⟨f, B2, f0, f1, f2⟩
  · have e1 := tx_e_lt hA.1 (by omega) (by omega : tx_k n l b p1 ≠ 1)
    obtain ⟨N1, hN1⟩ : ∃ N1, N1 = qb_ui B2 209 (5 * L + 1) (nI x) := ⟨_, rfl⟩
    have b9 : N1.1 209 (5 * L + 1) = nI x := by rw [hN1]; exact qb_ui_1s
    rw [← hN1] at a3 a5 a8
    refine kZ_good (A := A2) (B := N1) (p' := tx_e n l b p1) (fun u => eA2 u _ ?_) (fun u b0 N hb hN => eB2 u _ ?_) (by omega) a4 a5 ?_ (gA.tr (a7.mo (fun x k h => by unfold kQ; omega))) (gB.tr (a8.mo (fun x k h => by unfold kQ; omega)))
    · refine go_ald_4_0 rfl ?_
      refine go_ald_4_1 rfl ?_
      refine go_ald_4_2 rfl ?_
      refine go_call3 rfl (a1 u) (Nat.le_of_ble_eq_true rfl) (qb_qv rfl (by decide) (by decide)) ?_
      exact fin_i rfl rfl rfl
    · refine go_ald_4_0 rfl ?_
      refine go_ild_4_2 rfl ?_
      refine go_c rfl ?_
      refine go_iadd rfl ?_
      rw [nI_1]
      refine go_ald_4_0 rfl ?_
      refine go_c rfl ?_
      refine go_ald_4_0 rfl ?_
      refine go_getr rfl ⟨_, rfl, rfl, by decide, by decide⟩ ?_
      refine go_c rfl ?_
      refine go_iald (j := 1) rfl (⟨rfl, by decide, by decide, by decide⟩) (rfl) (by decide) ?_
      rw [show (qj u B1).1 194 1 = nI nm from hNm]
      refine go_call3 rfl (a2 u) (Nat.le_of_ble_eq_true rfl) (qb_qv rfl (by decide) (by decide)) ?_
      refine go_call3 rfl (a3 u) (Nat.le_of_ble_eq_true rfl) (qb_qv rfl (by decide) (by decide)) ?_
      refine go_ifeq rfl (fun e => ?_) (fun e => ?_)
      · exact absurd e (by decide)
      · refine go_ald_4_0 rfl ?_
        refine go_call1 rfl (hN) (Nat.le_of_ble_eq_true rfl) (qb_qv rfl (by decide) (by decide)) ?_
        rcases hb with hb | hb
        · subst hb
          refine go_ifeq rfl (fun e2 => ?_) (fun e2 => ?_)
          · refine go_c rfl ?_
            exact fin_i rfl rfl rfl
          · exact absurd rfl e2
        · subst hb
          refine go_ifeq rfl (fun e2 => ?_) (fun e2 => ?_)
          · exact absurd e2 (by decide)
          · refine go_c rfl ?_
            refine go_goto rfl ?_
            exact fin_i rfl rfl rfl
    · exact ⟨hL, Or.inr (Or.inr (Or.inl ⟨v, x, hv, (a7.i (by omega)).trans hvA, (a8.i (by omega)).trans hvB, hx, a6, b9⟩))⟩
  · refine kZ_fail (A := A1) (B := B2) (f := f) (pl := tx_p n l b p1) (fun u => eA2 u _ ?_) (fun u => eB2 u _ ?_) (tx_p9 hA) (gA.mo (fun x k h => kQ_F h)) ((gB.mo (fun x k h => kQ_F h)).tr (f0.mo (fun x k h => by unfold kF; omega)))
    · refine go_ald_4_0 rfl ?_
      refine go_ald_4_1 rfl ?_
      refine go_ald_4_2 rfl ?_
      refine go_call3 rfl (f1 u) (Nat.le_of_ble_eq_true rfl) (qb_qv rfl (by decide) (by decide)) ?_
      exact fin_i rfl rfl rfl
    · refine go_ald_4_0 rfl ?_
      refine go_ild_4_2 rfl ?_
      refine go_c rfl ?_
      refine go_iadd rfl ?_
      rw [nI_1]
      refine go_ald_4_0 rfl ?_
      refine go_c rfl ?_
      refine go_ald_4_0 rfl ?_
      refine go_getr rfl ⟨_, rfl, rfl, by decide, by decide⟩ ?_
      refine go_c rfl ?_
      refine go_iald (j := 1) rfl (⟨rfl, by decide, by decide, by decide⟩) (rfl) (by decide) ?_
      rw [show (qj u B1).1 194 1 = nI nm from hN.2.1]
      refine go_call3 rfl (f2 u) (Nat.le_of_ble_eq_true rfl) (qb_qv rfl (by decide) (by decide)) ?_
      refine go_call3 rfl (pm_keep0 (d' + 6) _ c _) (Nat.le_of_ble_eq_true rfl) (qb_qv rfl (by decide) (by decide)) ?_
      refine go_ifeq rfl (fun e => ?_) (fun e => ?_)
      · refine go_c rfl ?_
        exact fin_i rfl rfl rfl
      · exact absurd rfl e
theorem bk_k0 (d d' : Nat) (c : Nat × Nat) {M A1 B1 : qb_M} {n l : Nat} {b : Nat → Nat} {p p1 : Nat} (hp : p < p1) (hA : rC A1 n l b p1) (hB : rM B1 n l b p1) {L nm : Nat} (hL : L < 40) (h5 : A1.1 133 5 = nI L) (hvA : A1.1 134 L = nI 0) (hvB : B1.1 209 (5 * L) = nI 0) (gA : qG (kQ L) M A1) (gB : qG (kQ L) M B1) (eA : ∀ u R, qa_lm (qe (d + 7)) (qa_cd qc_132) (85, [.ref 133, .ref 65, .ref 67, .int (nI 0)], [], (qb_hp (qj A1 u), 149, c)) = R → qe (d + 8) 132 [.ref 133, .ref 65, .ref 67] (qb_hp (qj M u), 149, c) = R) (eB : ∀ u R, qa_lm (qe (d' + 7)) (qa_cd qc_270) (102, [.ref 192, .int (nI 0), .int (nI (5 * L)), .int (nI 5)], [], (qb_hp (qj u B1), 149, c)) = R → qe (d' + 8) 270 [.ref 192] (qb_hp (qj u M), 149, c) = R) : kZ d d' c M n l b p L nm := by
  obtain ⟨M', r, q1, q2, q3⟩ := bk_call (d + 1) (d' + 1) c (rC_j (B := B1) hA) (rM_j (A := A1) hB) (L := L) ((qj_i (by decide)).trans h5) hL
  simp only [qj_j] at q1
  simp only [qj_J] at q2
  have gM : qG (kQ L) M (qj A1 B1) := (qj_G gA gB).mo (fun x j h => h.elim (fun z => z.2) (fun z => z.2))
  refine ⟨M', r, fun u => eA u _ ?_, fun u b0 N hb hN h0 => eB u _ ?_, ?_⟩
  · refine go_ild_4_3 rfl ?_
    refine go_sw2 (n := 120) rfl (by decide +kernel) ?_
    refine go_ald_4_0 rfl ?_
    refine go_ald_4_1 rfl ?_
    refine go_call2 rfl (q1 u) (Nat.le_of_ble_eq_true rfl) (qb_qv rfl (by decide) (by decide)) ?_
    exact fin_i rfl (by rcases q3 with ⟨hr, _⟩ | ⟨hr, _⟩ <;> rw [hr] <;> rfl) rfl
  · refine go_ild_4_1 rfl ?_
    refine go_sw2 (n := 136) rfl (by decide +kernel) ?_
    refine go_ald_4_0 rfl ?_
    refine go_ild_4_2 rfl ?_
    refine go_call2 rfl (q2 u) (Nat.le_of_ble_eq_true rfl) (qb_qv rfl (by decide) (by decide)) ?_
    rcases q3 with ⟨hr, q3⟩ | ⟨hr, q3⟩
    · subst hr
      have hN := hN rfl
      refine go_ifeq rfl (fun e => ?_) (fun e => ?_)
      · exact absurd e (by decide)
      · refine go_ald_4_0 rfl ?_
        refine go_call1 rfl (hN) (Nat.le_of_ble_eq_true rfl) (qb_qv rfl (by decide) (by decide)) ?_
        rcases hb with hb | hb
        · subst hb
          refine go_ifeq rfl (fun e2 => ?_) (fun e2 => ?_)
          · refine go_c rfl ?_
            exact fin_i rfl rfl rfl
          · exact absurd rfl e2
        · subst hb
          refine go_ifeq rfl (fun e2 => ?_) (fun e2 => ?_)
          · exact absurd e2 (by decide)
          · refine go_c rfl ?_
            refine go_goto rfl ?_
            exact fin_i rfl rfl rfl
    · subst hr
      obtain ⟨hb0, hN0⟩ := h0 rfl
      subst hb0
      subst hN0
      refine go_ifeq rfl (fun e => ?_) (fun e => ?_)
      · refine go_c rfl ?_
        exact fin_i rfl rfl rfl
      · exact absurd rfl e
  · rcases q3 with ⟨hr, ⟨p', hp', c1, c2⟩, ⟨x, y, m, h, g1, g2, g3⟩, q3⟩ | ⟨hr, q4, q3⟩
    · refine Or.inl ⟨hr, ⟨p', by omega, c1, c2⟩, ⟨hL, Or.inl ⟨?_, ?_, x, y, m, h, g1, g2, g3⟩⟩, gM.tr (q3.mo (fun x k h => by unfold kQ; omega))⟩
      · exact (q3.i (by omega)).trans ((qj_i (by decide)).trans hvA)
      · exact (q3.i (by omega)).trans ((qj_I (by decide)).trans hvB)
    · exact Or.inr ⟨hr, q4, (gM.mo (fun x k h => Or.inl (kQ_F h))).tr q3⟩
theorem bk_line (d d' : Nat) (c : Nat × Nat) {M : qb_M} {n l : Nat} {b : Nat → Nat} {p : Nat} (hC : rC M n l b p) (hM : rM M n l b p) {L nm : Nat} (h5 : M.1 133 5 = nI L) (h38 : M.1 192 38 = nI L) (hL : L ≤ 40) (hN : kP M M nm) : kZ d d' c M n l b p L nm := by
  by_cases hk : ∃ v, v ≤ 5 ∧ kh n l b p v
  · obtain ⟨v, hv, hw⟩ := hk
    by_cases h40 : L = 40
    · refine kZ_fail (A := M) (B := M) (f := 4) (pl := tx_p n l b p) (fun u => ?_) (fun u => ?_) (tx_p9 hC) qG.rf qG.rf
      · refine (en_132 (d + 7) 133 65 67 _).trans ?_
        refine go_ald_4_1 rfl ?_
        refine go_call1 rfl (pc_verbAt (d + 5) c hC (nI v) (fun w hw2 h => by rw [kh_one hw2 hv h hw]) (fun h => absurd hw (h v hv)) u) (Nat.le_of_ble_eq_true rfl) rfl ?_
        refine go_ist_4_3 rfl rfl ?_
        refine go_ild_4_3 rfl ?_
        refine go_c rfl ?_
        refine go_icne rfl (fun e => ?_) (fun e => ?_)
        · exact absurd e (nI_m1 (by omega))
        · refine go_ald_4_0 rfl ?_
          refine go_geti rfl ⟨_, rfl, rfl, by decide, by decide⟩ ?_
          rw [show (qj M u).1 133 5 = nI L from h5, h40]
          refine go_c rfl ?_
          refine go_iclt rfl (fun e2 => ?_) (fun e2 => ?_)
          · exact absurd e2 (by decide)
          · refine go_ald_4_1 rfl ?_
            refine go_c rfl ?_
            refine go_call2 rfl (pc_fail (d + 6) c hC 4 u) (Nat.le_of_ble_eq_true rfl) (qb_qv rfl (by decide) (by decide)) ?_
            exact fin_i rfl rfl rfl
      · have hb := pm_bad (d' + 6) c hM 4 u
        rw [if_neg (by have := hw.1; omega)] at hb
        have go : qa_lm (qe (d' + 7)) (qa_cd qc_270) (47, [.ref 192, .int (nI v), .int (nI 5), .retAddr 0], [], (qb_hp (qj u M), 149, c)) = some (some (.int (0)), (qb_hp (qj u (fM M 4 (tx_p n l b p))), 149, c)) := by
          refine go_ald_4_0 rfl ?_
          refine go_geti rfl ⟨_, rfl, rfl, by decide, by decide⟩ ?_
          rw [show (qj u M).1 192 38 = nI L from h38, h40]
          refine go_c rfl ?_
          refine go_icne rfl (fun e => ?_) (fun e => ?_)
          · refine go_ald_4_0 rfl ?_
            refine go_c rfl ?_
            refine go_call2 rfl (hb) (Nat.le_of_ble_eq_true rfl) (qb_qv rfl (by decide) (by decide)) ?_
            exact fin_i rfl rfl rfl
          · exact absurd rfl e
        refine pm_verbs (d' + 4) c hM u v hv (fun i hi => ⟨fun h => kh_one (by omega) hv h hw, fun h => h ▸ hw⟩) _ ?_
        refine go_ild_4_1 rfl ?_
        refine go_c rfl ?_
        refine go_icne rfl (fun e => ?_) (fun e => ?_)
        · have h5 : v = 5 := (nI_eq (by omega) (by omega)).mp (e.trans (show (5 : Int32) = nI 5 from rfl))
          subst h5
          have hq := pm_isWord (d' + 4) c hM 11 (by decide) u
          refine go_ald_4_0 rfl ?_
          refine go_c rfl ?_
          refine go_call2 rfl (hq) (Nat.le_of_ble_eq_true rfl) (qb_qv rfl (by decide) (by decide)) ?_
          refine go_ifne rfl (fun e2 => ?_) (fun e2 => ?_)
          · exact absurd hw (qB_0.mp e2)
          · exact go
        · exact go
    · have hL : L < 40 := by omega
      obtain ⟨A1, hA, hvA, gA, eA⟩ := pc_head d c hC hv hw hL h5
      obtain ⟨B1, hB, hvB, gB, eB⟩ := pm_head d' c hM hv hw hL h38
      have e1 := tx_e_lt hC.1 (by have := hw.1; omega) (by have := hw.1; omega : tx_k n l b p ≠ 1)
      have hA5 : A1.1 133 5 = nI L := (gA.i (by omega)).trans h5
      have gA2 : qG (kQ L) M A1 := gA.mo (fun x k h => by unfold kQ; omega)
      have gB2 : qG (kQ L) M B1 := gB.mo (fun x k h => by unfold kQ; omega)
      have hN2 : kP A1 B1 nm := ⟨(gA.i (by omega)).trans hN.1, (gB.i (by omega)).trans hN.2.1, hN.2.2.1, fun k hk => by rw [gA.l (by omega), gB.l (by omega)]; exact hN.2.2.2 k hk⟩
      have hh : v = 0 ∨ v = 1 ∨ v = 5 ∨ (v = 2 ∨ v = 3 ∨ v = 4) := by omega
      rcases hh with hh | hh | hh | hh
      · subst hh
        exact bk_k0 d d' c e1 hA hB hL hA5 hvA hvB gA2 gB2 eA eB
      · subst hh
        exact bk_k1 d d' c e1 hA hB hL hA5 hvA hvB gA2 gB2 eA eB
      · subst hh
        exact bk_k5 d d' c e1 hA hB hL hA5 hvA hvB gA2 gB2 eA eB
      · exact bk_kN d d' c e1 hA hB hh hN2 hL hA5 hvA hvB gA2 gB2 eA eB
  · have hk2 : ∀ v, v ≤ 5 → ¬ kh n l b p v := fun v hv h => hk ⟨v, hv, h⟩
    refine kZ_fail (A := M) (B := M) (f := 1) (pl := tx_p n l b p) (fun u => ?_) (fun u => ?_) (tx_p9 hC) qG.rf qG.rf
    · refine (en_132 (d + 7) 133 65 67 _).trans ?_
      refine go_ald_4_1 rfl ?_
      refine go_call1 rfl (pc_verbAt (d + 5) c hC (-1) (fun w hw2 h => absurd h (hk2 w hw2)) (fun _ => rfl) u) (Nat.le_of_ble_eq_true rfl) rfl ?_
      refine go_ist_4_3 rfl rfl ?_
      refine go_ild_4_3 rfl ?_
      refine go_c rfl ?_
      refine go_icne rfl (fun e => ?_) (fun e => ?_)
      · refine go_ald_4_1 rfl ?_
        refine go_c rfl ?_
        refine go_call2 rfl (pc_fail (d + 6) c hC 1 u) (Nat.le_of_ble_eq_true rfl) (qb_qv rfl (by decide) (by decide)) ?_
        exact fin_i rfl rfl rfl
      · exact absurd rfl e
    · have hb := pm_bad (d' + 6) c hM 1 u
      rw [ite_self] at hb
      refine pm_verbs (d' + 4) c hM u 5 (by decide) (fun i hi => ⟨fun h => absurd h (hk2 i (by omega)), fun h => by omega⟩) _ ?_
      refine go_ild_4_1 rfl ?_
      refine go_c rfl ?_
      refine go_icne rfl (fun e => ?_) (fun e => ?_)
      · have hq := pm_isWord (d' + 4) c hM 11 (by decide) u
        refine go_ald_4_0 rfl ?_
        refine go_c rfl ?_
        refine go_call2 rfl (hq) (Nat.le_of_ble_eq_true rfl) (qb_qv rfl (by decide) (by decide)) ?_
        refine go_ifne rfl (fun e2 => ?_) (fun e2 => ?_)
        · refine go_ald_4_0 rfl ?_
          refine go_c rfl ?_
          refine go_call2 rfl (hb) (Nat.le_of_ble_eq_true rfl) (qb_qv rfl (by decide) (by decide)) ?_
          exact fin_i rfl rfl rfl
        · exact absurd (qB_f (hk2 5 (by decide))) e2
      · exact absurd rfl e
