/-! a book's lines, read by both -/
def kF (x k : Nat) : Prop := x = 65 ∧ 5 ≤ k ∧ k ≤ 10 ∨ 134 ≤ x ∧ x ≤ 138 ∨ x = 192 ∧ (5 ≤ k ∧ k ≤ 9 ∨ k = 12 ∨ k = 13) ∨ x = 209
def kG (x k : Nat) : Prop := kF x k ∨ x = 65 ∧ (k = 2 ∨ k = 3) ∨ x = 192 ∧ (k = 10 ∨ k = 11)
theorem kG_of {x j : Nat} (h : x < 192 ∧ (kF x j ∨ x = 65 ∧ (j = 2 ∨ j = 3)) ∨ ¬ x < 192 ∧ (kF x j ∨ x = 192 ∧ (j = 10 ∨ j = 11))) : kG x j := by
  unfold kG
  rcases h with ⟨_, h | h⟩ | ⟨_, h | h⟩
  · exact Or.inl h
  · exact Or.inr (Or.inl h)
  · exact Or.inl h
  · exact Or.inr (Or.inr h)
theorem kF_of {x j : Nat} (h : x < 192 ∧ kF x j ∨ ¬ x < 192 ∧ kF x j) : kF x j := h.elim (fun z => z.2) (fun z => z.2)
theorem pm_keep1 (d : Nat) (s : qb_M) (c : Nat × Nat) (k : Nat) (hk : k < 200) : qe (d + 1) 272 [.ref 192, .int (nI k), .int 1] (qb_hp (s), 149, c) = some (some (.int (1)), (qb_hp (qb_ui s 209 k (s.1 192 13)), 149, c)) := by
  refine (en_272 d 192 (nI k) 1 _).trans ?_
  refine go_ild_3_2 rfl ?_
  refine go_ifeq rfl (fun e => ?_) (fun e => ?_)
  · exact absurd e (by decide)
  · refine go_ald_3_0 rfl ?_
    refine go_getr rfl ⟨_, rfl, rfl, by decide, by decide⟩ ?_
    refine go_ild_3_1 rfl ?_
    refine go_ald_3_0 rfl ?_
    refine go_geti rfl ⟨_, rfl, rfl, by decide, by decide⟩ ?_
    refine go_iast (j := k) rfl (⟨rfl, by decide, by decide, by decide⟩) (rfl) (by omega) ?_
    refine go_ild_3_2 rfl ?_
    exact fin_i rfl rfl rfl
theorem pm_keep0 (d : Nat) (s : qb_M) (c : Nat × Nat) (k : Int32) : qe (d + 1) 272 [.ref 192, .int k, .int 0] (qb_hp (s), 149, c) = some (some (.int (0)), (qb_hp (s), 149, c)) := by
  refine (en_272 d 192 k 0 _).trans ?_
  refine go_ild_3_2 rfl ?_
  refine go_ifeq rfl (fun e => ?_) (fun e => ?_)
  · refine go_ild_3_2 rfl ?_
    exact fin_i rfl rfl rfl
  · exact absurd rfl e
/-- a number of a line, into a row of the component, into a place of the reference -/
theorem bk_num (d d' : Nat) (c : Nat × Nat) {A B : qb_M} {n l : Nat} {b : Nat → Nat} {p : Nat} (hC : rC A n l b p) (hM : rM B n l b p) {L : Nat} (h5 : A.1 133 5 = nI L) (hL : L < 40) (arr : Nat) (harr : arr = 135 ∨ arr = 136 ∨ arr = 137) (j : Nat) (hj : j < 200) (x y : Int32) : (tx_k n l b p = 3 ∧ (x ≤ nI (tx_n n b p) ∧ nI (tx_n n b p) ≤ y) ∧ ∃ A' B', (∀ u, qe (d + 5) 135 [.ref 133, .ref 65, .ref arr, .int x, .int y] (qb_hp (qj A u), 149, c) = some (some (.int (1)), (qb_hp (qj A' u), 149, c))) ∧ (∀ u, qe (d' + 5) 181 [.ref 192, .int x, .int y] (qb_hp (qj u B), 149, c) = some (some (.int (1)), (qb_hp (qj u B'), 149, c))) ∧ (∀ u, qe (d' + 5) 272 [.ref 192, .int (nI j), .int 1] (qb_hp (qj u B'), 149, c) = some (some (.int (1)), (qb_hp (qj u (qb_ui B' 209 j (nI (tx_n n b p)))), 149, c))) ∧ rC A' n l b (tx_e n l b p) ∧ rM (qb_ui B' 209 j (nI (tx_n n b p))) n l b (tx_e n l b p) ∧ A'.1 arr L = nI (tx_n n b p) ∧ qG (fun x k => x = 65 ∧ 5 ≤ k ∧ k ≤ 10 ∨ x = arr ∧ k = L) A A' ∧ qG (fun x k => x = 192 ∧ (5 ≤ k ∧ k ≤ 9 ∨ k = 12 ∨ k = 13) ∨ x = 209 ∧ k = j) B (qb_ui B' 209 j (nI (tx_n n b p)))) ∨ ∃ f : Nat, (∀ u, qe (d + 5) 135 [.ref 133, .ref 65, .ref arr, .int x, .int y] (qb_hp (qj A u), 149, c) = some (some (.int (0)), (qb_hp (qj (fC A f (tx_p n l b p)) u), 149, c))) ∧ ∀ u, qe (d' + 5) 181 [.ref 192, .int x, .int y] (qb_hp (qj u B), 149, c) = some (some (.int (0)), (qb_hp (qj u (fM B f (tx_p n l b p))), 149, c)) := by
  have ha : qb_ia arr 0 40 := by rcases harr with e | e | e <;> subst e <;> exact ⟨rfl, by decide, by decide, by decide⟩
  have ha2 : arr < 192 := by omega
  rcases nb_both (d + 2) (d' + 1) c hC hM x y with ⟨k3, hr, n1, B', n2, n3, n4, n5⟩ | ⟨f, n1, n2⟩
  · obtain ⟨A', e1, e2, e3⟩ := pc_step (d + 1) c (hC.mv (P := fun x k => x = arr) (N := qb_ui A arr L (nI (tx_n n b p))) (qG.rf.ui rfl) (fun x k h => by omega))
    refine Or.inl ⟨k3, hr, A', B', fun u => ?_, n2, fun u => ?_, e2, n3.mv (P := fun x k => x = 209) (qG.rf.ui rfl) (fun x k h => by omega), (e3.i (by omega)).trans qb_ui_1s, (qG.rf.ui (by omega)).tr (e3.mo (fun x k h => by omega)), (n5.mo (fun x k h => by omega)).ui (by omega)⟩
    · refine (en_135 (d + 4) 133 65 arr x y _).trans ?_
      refine go_ald_5_1 rfl ?_
      refine go_ild_5_3 rfl ?_
      refine go_ild_5_4 rfl ?_
      refine go_call3 rfl (n1 u) (Nat.le_of_ble_eq_true rfl) (qb_qv rfl (by decide) (by decide)) ?_
      refine go_ifne rfl (fun e => ?_) (fun e => ?_)
      · exact absurd e (by decide)
      · refine go_ald_5_2 rfl ?_
        refine go_ald_5_0 rfl ?_
        refine go_geti rfl ⟨_, rfl, rfl, by decide, by decide⟩ ?_
        rw [show (qj A u).1 133 5 = nI L from h5]
        refine go_ald_5_1 rfl ?_
        refine go_geti rfl ⟨_, rfl, rfl, by decide, by decide⟩ ?_
        rw [show (qj A u).1 65 8 = nI (tx_n n b p) from hC.2.2.2.2.2.2.2 k3]
        refine go_iast (j := L) rfl (ha) (rfl) (by omega) ?_
        rw [qj_ui ha2]
        refine go_ald_5_1 rfl ?_
        refine go_call1 rfl (e1 u) (Nat.le_of_ble_eq_true rfl) (qb_qv rfl (by decide) (by decide)) ?_
        refine go_c rfl ?_
        exact fin_i rfl rfl rfl
    · have := pm_keep1 (d' + 4) (qj u B') c j hj
      rw [show (qj u B').1 192 13 = nI (tx_n n b p) from n4, qj_UI (by decide)] at this
      exact this
  · refine Or.inr ⟨f, fun u => ?_, n2⟩
    refine (en_135 (d + 4) 133 65 arr x y _).trans ?_
    refine go_ald_5_1 rfl ?_
    refine go_ild_5_3 rfl ?_
    refine go_ild_5_4 rfl ?_
    refine go_call3 rfl (n1 u) (Nat.le_of_ble_eq_true rfl) (qb_qv rfl (by decide) (by decide)) ?_
    refine go_ifne rfl (fun e => ?_) (fun e => ?_)
    · refine go_c rfl ?_
      exact fin_i rfl rfl rfl
    · exact absurd rfl e
/-- how a call of a book is told -/
theorem bk_call (d d' : Nat) (c : Nat × Nat) {M : qb_M} {n l : Nat} {b : Nat → Nat} {p : Nat} (hC : rC M n l b p) (hM : rM M n l b p) {L : Nat} (h5 : M.1 133 5 = nI L) (hL : L < 40) : ∃ M' r, (∀ u, qe (d + 6) 134 [.ref 133, .ref 65] (qb_hp (qj M u), 149, c) = some (some (.int (r)), (qb_hp (qj M' u), 149, c))) ∧ (∀ u, qe (d' + 6) 271 [.ref 192, .int (nI (5 * L))] (qb_hp (qj u M), 149, c) = some (some (.int (r)), (qb_hp (qj u M'), 149, c))) ∧ rO (fun x k => x = 65 ∧ 5 ≤ k ∧ k ≤ 10 ∨ (x = 135 ∨ x = 136 ∨ x = 137 ∨ x = 138) ∧ k = L ∨ x = 192 ∧ (5 ≤ k ∧ k ≤ 9 ∨ k = 12 ∨ k = 13) ∨ x = 209 ∧ 5 * L < k ∧ k ≤ 5 * L + 4) kG n l b p M M' r (fun M' => ∃ x y m h : Nat, (x ≤ 7 ∧ y ≤ 7 ∧ 1 ≤ m ∧ m ≤ 30 ∧ h ≤ 1) ∧ (M'.1 135 L = nI x ∧ M'.1 136 L = nI y ∧ M'.1 137 L = nI m ∧ M'.1 138 L = nI h) ∧ M'.1 209 (5 * L + 1) = nI x ∧ M'.1 209 (5 * L + 2) = nI y ∧ M'.1 209 (5 * L + 3) = nI m ∧ M'.1 209 (5 * L + 4) = nI h) := by
  have i2 : ∀ k : Nat, nI (5 * L) + nI k = nI (5 * L + k) := fun k => nI_add _ _
  have cF : ∀ (A : qb_M) u (pl f : Nat), qa_lm (qe (d + 5)) (qa_cd qc_134) (49, [.ref 133, .ref 65, .retAddr 0], [], (qb_hp (qj (fC A f pl) u), 149, c)) = some (some (.int (0)), (qb_hp (qj (fC A f pl) u), 149, c)) := fun A u pl f => by
    refine go_c rfl ?_
    refine go_ist_3_2 rfl rfl ?_
    refine go_ild_3_2 rfl ?_
    refine go_ifne rfl (fun e => ?_) (fun e => ?_)
    · refine go_c rfl ?_
      exact fin_i rfl rfl rfl
    · exact absurd rfl e
  have mF : ∀ (B : qb_M) u (pl f : Nat), qa_lm (qe (d' + 5)) (qa_cd qc_271) (69, [.ref 192, .int (nI (5 * L))], [], (qb_hp (qj u (fM B f pl)), 149, c)) = some (some (.int (0)), (qb_hp (qj u (fM B f pl)), 149, c)) := fun B u pl f => by
    refine go_c rfl ?_
    exact fin_i rfl rfl rfl
  rcases bk_num d d' c hC hM h5 hL 135 (Or.inl rfl) (5 * L + 1) (by omega) 0 7 with ⟨k1, r1, A1, B1, a1, a2, a3, a4, a5, a6, a7, a8⟩ | ⟨f, f1, f2⟩
  · obtain ⟨x, hx⟩ : ∃ x, x = tx_n n b p := ⟨_, rfl⟩
    obtain ⟨N1, hN1⟩ : ∃ N1, N1 = qb_ui B1 209 (5 * L + 1) (nI x) := ⟨_, rfl⟩
    rw [← hx] at r1 a3 a5 a6 a8
    rw [← hN1] at a3 a5 a8
    have x9 := tx_rng (x := 0) (y := 7) (by rw [hx]; exact tx_n9 k1) (by decide) (by decide) r1
    have e1 := tx_e_lt hC.1 (by omega) (by omega : tx_k n l b p ≠ 1)
    obtain ⟨p1, hp1⟩ : ∃ p1, p1 = tx_e n l b p := ⟨_, rfl⟩
    rw [← hp1] at a4 a5 e1
    have c1 : ∀ u R, qa_lm (qe (d + 5)) (qa_cd qc_134) (15, [.ref 133, .ref 65, .retAddr 0], [], (qb_hp (qj A1 u), 149, c)) = R → qe (d + 6) 134 [.ref 133, .ref 65] (qb_hp (qj M u), 149, c) = R := fun u R hR => by
      refine (en_134 (d + 5) 133 65 _).trans ?_
      refine go_ald_3_0 rfl ?_
      refine go_ald_3_1 rfl ?_
      refine go_ald_3_0 rfl ?_
      refine go_getr rfl ⟨_, rfl, rfl, by decide, by decide⟩ ?_
      refine go_c rfl ?_
      refine go_c rfl ?_
      refine go_call5 rfl (a1 u) (Nat.le_of_ble_eq_true rfl) (qb_qv rfl (by decide) (by decide)) ?_
      refine go_ifeq rfl (fun e => ?_) (fun e => ?_)
      · exact absurd e (by decide)
      · exact hR
    have m1 : ∀ u R, qa_lm (qe (d' + 5)) (qa_cd qc_271) (17, [.ref 192, .int (nI (5 * L))], [], (qb_hp (qj u N1), 149, c)) = R → qe (d' + 6) 271 [.ref 192, .int (nI (5 * L))] (qb_hp (qj u M), 149, c) = R := fun u R hR => by
      refine (en_271 (d' + 5) 192 (nI (5 * L)) _).trans ?_
      refine go_ald_2_0 rfl ?_
      refine go_ild_2_1 rfl ?_
      refine go_c rfl ?_
      refine go_iadd rfl ?_
      rw [nI_1]
      refine go_ald_2_0 rfl ?_
      refine go_c rfl ?_
      refine go_c rfl ?_
      refine go_call3 rfl (a2 u) (Nat.le_of_ble_eq_true rfl) (qb_qv rfl (by decide) (by decide)) ?_
      refine go_call3 rfl (a3 u) (Nat.le_of_ble_eq_true rfl) (qb_qv rfl (by decide) (by decide)) ?_
      refine go_ifeq rfl (fun e => ?_) (fun e => ?_)
      · exact absurd e (by decide)
      · exact hR
    rcases bk_num d d' c a4 a5 (L := L) ((a7.i (by omega)).trans h5) hL 136 (Or.inr (Or.inl rfl)) (5 * L + 2) (by omega) 0 7 with ⟨k2, r2, A2, B2, b1, b2, b3, b4, b5, b6, b7, b8⟩ | ⟨f, f1, f2⟩
    · obtain ⟨y, hy⟩ : ∃ y, y = tx_n n b p1 := ⟨_, rfl⟩
      obtain ⟨N2, hN2⟩ : ∃ N2, N2 = qb_ui B2 209 (5 * L + 2) (nI y) := ⟨_, rfl⟩
      rw [← hy] at r2 b3 b5 b6 b8
      rw [← hN2] at b3 b5 b8
      have y9 := tx_rng (x := 0) (y := 7) (by rw [hy]; exact tx_n9 k2) (by decide) (by decide) r2
      have e2 := tx_e_lt a4.1 (by omega) (by omega : tx_k n l b p1 ≠ 1)
      obtain ⟨p2, hp2⟩ : ∃ p2, p2 = tx_e n l b p1 := ⟨_, rfl⟩
      rw [← hp2] at b4 b5 e2
      have c2 : ∀ u R, qa_lm (qe (d + 5)) (qa_cd qc_134) (30, [.ref 133, .ref 65, .retAddr 0], [], (qb_hp (qj A2 u), 149, c)) = R → qe (d + 6) 134 [.ref 133, .ref 65] (qb_hp (qj M u), 149, c) = R := fun u R hR => c1 u R (by
        refine go_ald_3_0 rfl ?_
        refine go_ald_3_1 rfl ?_
        refine go_ald_3_0 rfl ?_
        refine go_getr rfl ⟨_, rfl, rfl, by decide, by decide⟩ ?_
        refine go_c rfl ?_
        refine go_c rfl ?_
        refine go_call5 rfl (b1 u) (Nat.le_of_ble_eq_true rfl) (qb_qv rfl (by decide) (by decide)) ?_
        refine go_ifeq rfl (fun e => ?_) (fun e => ?_)
        · exact absurd e (by decide)
        · exact hR)
      have m2 : ∀ u R, qa_lm (qe (d' + 5)) (qa_cd qc_271) (34, [.ref 192, .int (nI (5 * L))], [], (qb_hp (qj u N2), 149, c)) = R → qe (d' + 6) 271 [.ref 192, .int (nI (5 * L))] (qb_hp (qj u M), 149, c) = R := fun u R hR => m1 u R (by
        refine go_ald_2_0 rfl ?_
        refine go_ild_2_1 rfl ?_
        refine go_c rfl ?_
        refine go_iadd rfl ?_
        rw [show (2 : Int32) = nI 2 from rfl, i2]
        refine go_ald_2_0 rfl ?_
        refine go_c rfl ?_
        refine go_c rfl ?_
        refine go_call3 rfl (b2 u) (Nat.le_of_ble_eq_true rfl) (qb_qv rfl (by decide) (by decide)) ?_
        refine go_call3 rfl (b3 u) (Nat.le_of_ble_eq_true rfl) (qb_qv rfl (by decide) (by decide)) ?_
        refine go_ifeq rfl (fun e => ?_) (fun e => ?_)
        · exact absurd e (by decide)
        · exact hR)
      rcases bk_num d d' c b4 b5 (L := L) ((b7.i (by omega)).trans ((a7.i (by omega)).trans h5)) hL 137 (Or.inr (Or.inr rfl)) (5 * L + 3) (by omega) 1 30 with ⟨k3, r3, A3, B3, g1, g2, g3, g4, g5, g6, g7, g8⟩ | ⟨f, f1, f2⟩
      · obtain ⟨m, hm⟩ : ∃ m, m = tx_n n b p2 := ⟨_, rfl⟩
        obtain ⟨N3, hN3⟩ : ∃ N3, N3 = qb_ui B3 209 (5 * L + 3) (nI m) := ⟨_, rfl⟩
        rw [← hm] at r3 g3 g5 g6 g8
        rw [← hN3] at g3 g5 g8
        have m9 := tx_rng (x := 1) (y := 30) (by rw [hm]; exact tx_n9 k3) (by decide) (by decide) r3
        have e3 := tx_e_lt b4.1 (by omega) (by omega : tx_k n l b p2 ≠ 1)
        obtain ⟨p3, hp3⟩ : ∃ p3, p3 = tx_e n l b p2 := ⟨_, rfl⟩
        rw [← hp3] at g4 g5 e3
        have c3 : ∀ u R, qa_lm (qe (d + 5)) (qa_cd qc_134) (57, [.ref 133, .ref 65, .int 1], [], (qb_hp (qj A3 u), 149, c)) = R → qe (d + 6) 134 [.ref 133, .ref 65] (qb_hp (qj M u), 149, c) = R := fun u R hR => c2 u R (by
          refine go_ald_3_0 rfl ?_
          refine go_ald_3_1 rfl ?_
          refine go_ald_3_0 rfl ?_
          refine go_getr rfl ⟨_, rfl, rfl, by decide, by decide⟩ ?_
          refine go_c rfl ?_
          refine go_c rfl ?_
          refine go_call5 rfl (g1 u) (Nat.le_of_ble_eq_true rfl) (qb_qv rfl (by decide) (by decide)) ?_
          refine go_ifeq rfl (fun e => ?_) (fun e => ?_)
          · exact absurd e (by decide)
          · refine go_c rfl ?_
            refine go_goto rfl ?_
            refine go_ist_3_2 rfl rfl ?_
            refine go_ild_3_2 rfl ?_
            refine go_ifne rfl (fun e => ?_) (fun e => ?_)
            · exact absurd e (by decide)
            · exact hR)
        have m3 : ∀ u R, qa_lm (qe (d' + 5)) (qa_cd qc_271) (51, [.ref 192, .int (nI (5 * L))], [], (qb_hp (qj u N3), 149, c)) = R → qe (d' + 6) 271 [.ref 192, .int (nI (5 * L))] (qb_hp (qj u M), 149, c) = R := fun u R hR => m2 u R (by
          refine go_ald_2_0 rfl ?_
          refine go_ild_2_1 rfl ?_
          refine go_c rfl ?_
          refine go_iadd rfl ?_
          rw [show (3 : Int32) = nI 3 from rfl, i2]
          refine go_ald_2_0 rfl ?_
          refine go_c rfl ?_
          refine go_c rfl ?_
          refine go_call3 rfl (g2 u) (Nat.le_of_ble_eq_true rfl) (qb_qv rfl (by decide) (by decide)) ?_
          refine go_call3 rfl (g3 u) (Nat.le_of_ble_eq_true rfl) (qb_qv rfl (by decide) (by decide)) ?_
          refine go_ifeq rfl (fun e => ?_) (fun e => ?_)
          · exact absurd e (by decide)
          · exact hR)
        have gA3 : qG (fun x k => x = 65 ∧ 5 ≤ k ∧ k ≤ 10 ∨ (x = 135 ∨ x = 136 ∨ x = 137) ∧ k = L) M A3 := ((a7.mo (fun x k h => by omega)).tr (b7.mo (fun x k h => by omega))).tr (g7.mo (fun x k h => by omega))
        have gB3 : qG (fun x k => x = 192 ∧ (5 ≤ k ∧ k ≤ 9 ∨ k = 12 ∨ k = 13) ∨ x = 209 ∧ 5 * L < k ∧ k ≤ 5 * L + 3) M N3 := ((a8.mo (fun x k h => by omega)).tr (b8.mo (fun x k h => by omega))).tr (g8.mo (fun x k h => by omega))
        have i6 := pc_isAt (d + 4) c g4 6 (by decide)
        have i7 := pc_isAt (d + 4) c g4 7 (by decide)
        have j9 := pm_isWord (d' + 1) c g5 9 (by decide)
        have j10 := pm_isWord (d' + 1) c g5 10 (by decide)
        by_cases hh : tx_k n l b p3 = 2 ∧ (tx_wd (tx_l n b p3) = some 6 ∨ tx_wd (tx_l n b p3) = some 7)
        · obtain ⟨h, hh1, hh2, hh3⟩ : ∃ h : Nat, h ≤ 1 ∧ (h = 1 ↔ tx_wd (tx_l n b p3) = some 7) ∧ (h = 0 ↔ ¬ tx_wd (tx_l n b p3) = some 7) := by
            by_cases z : tx_wd (tx_l n b p3) = some 7
            · exact ⟨1, by decide, ⟨fun _ => z, fun _ => rfl⟩, ⟨fun q => absurd q (by decide), fun q => absurd z q⟩⟩
            · exact ⟨0, by decide, ⟨fun q => absurd q (by decide), fun q => absurd q z⟩, ⟨fun _ => z, fun _ => rfl⟩⟩
          obtain ⟨A4, s1, s2, s3⟩ := pc_step (d + 2) c (g4.mv (P := fun x k => x = 138) (N := qb_ui A3 138 L (nI h)) (qG.rf.ui rfl) (fun x k h => by omega))
          obtain ⟨B4, t1, t2, t3⟩ := pm_go (d' + 1) c (g5.mv (P := fun x k => x = 192 ∧ k = 13) (N := qb_ui N3 192 13 (nI h)) (qG.rf.ui ⟨rfl, rfl⟩) (fun x k h => by omega))
          have e4 := tx_e_lt g4.1 (by omega) (by omega : tx_k n l b p3 ≠ 1)
          have gA4 : qG (fun x k => x = 65 ∧ 5 ≤ k ∧ k ≤ 10 ∨ (x = 135 ∨ x = 136 ∨ x = 137 ∨ x = 138) ∧ k = L) M A4 := ((gA3.mo (fun x k h => by omega)).ui (by omega)).tr (s3.mo (fun x k h => by omega))
          have gB4 : qG (fun x k => x = 192 ∧ (5 ≤ k ∧ k ≤ 9 ∨ k = 12 ∨ k = 13) ∨ x = 209 ∧ 5 * L < k ∧ k ≤ 5 * L + 4) M (qb_ui B4 209 (5 * L + 4) (nI h)) := (((gB3.mo (fun x k h => by omega)).ui (by omega)).tr (t3.mo (fun x k h => by omega))).ui (by omega)
          have hrh : ∀ u, qe (d' + 5) 273 [.ref 192] (qb_hp (qj u N3), 149, c) = some (some (.int (1)), (qb_hp (qj u B4), 149, c)) := fun u => by
            have go : qa_lm (qe (d' + 4)) (qa_cd qc_273) (24, [.ref 192], [], (qb_hp (qj u N3), 149, c)) = some (some (.int (1)), (qb_hp (qj u B4), 149, c)) := by
              refine go_ald_1_0 rfl ?_
              refine go_ald_1_0 rfl ?_
              refine go_c rfl ?_
              refine go_call2 rfl (j10 u) (Nat.le_of_ble_eq_true rfl) (qb_qv rfl (by decide) (by decide)) ?_
              refine go_ifeq rfl (fun e => ?_) (fun e => ?_)
              · have z : h = 0 := hh3.mpr (fun q => qB_0.mp e ⟨hh.1, q⟩)
                rw [z] at t1
                refine go_c rfl ?_
                refine go_puti rfl ⟨_, rfl, rfl, by decide, by decide⟩ rfl rfl ?_
                rw [qj_UI (by decide)]
                refine go_ald_1_0 rfl ?_
                refine go_call1 rfl (t1 u) (Nat.le_of_ble_eq_true rfl) (qb_qv rfl (by decide) (by decide)) ?_
                refine go_c rfl ?_
                exact fin_i rfl rfl rfl
              · have z : h = 1 := hh2.mpr (Classical.byContradiction fun q => e (qB_f (fun w => q w.2)))
                rw [z] at t1
                refine go_c rfl ?_
                refine go_goto rfl ?_
                refine go_puti rfl ⟨_, rfl, rfl, by decide, by decide⟩ rfl rfl ?_
                rw [qj_UI (by decide)]
                refine go_ald_1_0 rfl ?_
                refine go_call1 rfl (t1 u) (Nat.le_of_ble_eq_true rfl) (qb_qv rfl (by decide) (by decide)) ?_
                refine go_c rfl ?_
                exact fin_i rfl rfl rfl
            refine (en_273 (d' + 4) 192 _).trans ?_
            refine go_ald_1_0 rfl ?_
            refine go_c rfl ?_
            refine go_call2 rfl (j9 u) (Nat.le_of_ble_eq_true rfl) (qb_qv rfl (by decide) (by decide)) ?_
            refine go_ifne rfl (fun e => ?_) (fun e => ?_)
            · refine go_ald_1_0 rfl ?_
              refine go_c rfl ?_
              refine go_call2 rfl (j10 u) (Nat.le_of_ble_eq_true rfl) (qb_qv rfl (by decide) (by decide)) ?_
              refine go_ifne rfl (fun e2 => ?_) (fun e2 => ?_)
              · exact absurd hh (fun z => z.2.elim (fun q => qB_0.mp e ⟨z.1, q⟩) (fun q => qB_0.mp e2 ⟨z.1, q⟩))
              · exact go
            · exact go
          refine bo_good (A := A4) (B := qb_ui B4 209 (5 * L + 4) (nI h)) (p' := tx_e n l b p3) (P1 := fun x k => x = 65 ∧ 5 ≤ k ∧ k ≤ 10 ∨ (x = 135 ∨ x = 136 ∨ x = 137 ∨ x = 138) ∧ k = L) (Q1 := fun x k => x = 192 ∧ (5 ≤ k ∧ k ≤ 9 ∨ k = 12 ∨ k = 13) ∨ x = 209 ∧ 5 * L < k ∧ k ≤ 5 * L + 4) (fun u => c3 u _ ?_) (fun u => m3 u _ ?_) (by omega) s2 (t2.mv (P := fun x k => x = 209) (qG.rf.ui rfl) (fun x k h => by omega)) ?_ gA4 gB4 (fun x j h => by omega)
          · have go : qa_lm (qe (d + 5)) (qa_cd qc_134) (83, [.ref 133, .ref 65, .int 1], [], (qb_hp (qj A3 u), 149, c)) = some (some (.int (1)), (qb_hp (qj A4 u), 149, c)) := by
              refine go_ald_3_0 rfl ?_
              refine go_getr rfl ⟨_, rfl, rfl, by decide, by decide⟩ ?_
              refine go_ald_3_0 rfl ?_
              refine go_geti rfl ⟨_, rfl, rfl, by decide, by decide⟩ ?_
              rw [show (qj A3 u).1 133 5 = nI L from (gA3.i (by omega)).trans h5]
              refine go_ald_3_1 rfl ?_
              refine go_c rfl ?_
              refine go_call2 rfl (i7 u) (Nat.le_of_ble_eq_true rfl) (qb_qv rfl (by decide) (by decide)) ?_
              refine go_ifeq rfl (fun e => ?_) (fun e => ?_)
              · have z : h = 0 := hh3.mpr (fun q => qB_0.mp e ⟨hh.1, q⟩)
                rw [z] at s1
                refine go_c rfl ?_
                refine go_iast (j := L) rfl (⟨rfl, by decide, by decide, by decide⟩) (rfl) (by omega) ?_
                rw [qj_ui (by decide)]
                refine go_ald_3_1 rfl ?_
                refine go_call1 rfl (s1 u) (Nat.le_of_ble_eq_true rfl) (qb_qv rfl (by decide) (by decide)) ?_
                refine go_c rfl ?_
                exact fin_i rfl rfl rfl
              · have z : h = 1 := hh2.mpr (Classical.byContradiction fun q => e (qB_f (fun w => q w.2)))
                rw [z] at s1
                refine go_c rfl ?_
                refine go_goto rfl ?_
                refine go_iast (j := L) rfl (⟨rfl, by decide, by decide, by decide⟩) (rfl) (by omega) ?_
                rw [qj_ui (by decide)]
                refine go_ald_3_1 rfl ?_
                refine go_call1 rfl (s1 u) (Nat.le_of_ble_eq_true rfl) (qb_qv rfl (by decide) (by decide)) ?_
                refine go_c rfl ?_
                exact fin_i rfl rfl rfl
            refine go_ald_3_1 rfl ?_
            refine go_c rfl ?_
            refine go_call2 rfl (i6 u) (Nat.le_of_ble_eq_true rfl) (qb_qv rfl (by decide) (by decide)) ?_
            refine go_ifne rfl (fun e => ?_) (fun e => ?_)
            · refine go_ald_3_1 rfl ?_
              refine go_c rfl ?_
              refine go_call2 rfl (i7 u) (Nat.le_of_ble_eq_true rfl) (qb_qv rfl (by decide) (by decide)) ?_
              refine go_ifne rfl (fun e2 => ?_) (fun e2 => ?_)
              · exact absurd hh (fun z => z.2.elim (fun q => qB_0.mp e ⟨z.1, q⟩) (fun q => qB_0.mp e2 ⟨z.1, q⟩))
              · exact go
            · exact go
          · have hkp := pm_keep1 (d' + 4) (qj u B4) c (5 * L + 4) (by omega)
            rw [show (qj u B4).1 192 13 = nI h from (t3.i (by omega)).trans qb_ui_1s, qj_UI (by decide)] at hkp
            refine go_ald_2_0 rfl ?_
            refine go_ild_2_1 rfl ?_
            refine go_c rfl ?_
            refine go_iadd rfl ?_
            rw [show (4 : Int32) = nI 4 from rfl, i2]
            refine go_ald_2_0 rfl ?_
            refine go_call1 rfl (hrh u) (Nat.le_of_ble_eq_true rfl) (qb_qv rfl (by decide) (by decide)) ?_
            refine go_call3 rfl (hkp) (Nat.le_of_ble_eq_true rfl) (qb_qv rfl (by decide) (by decide)) ?_
            refine go_ifeq rfl (fun e => ?_) (fun e => ?_)
            · exact absurd e (by decide)
            · refine go_c rfl ?_
              refine go_goto rfl ?_
              exact fin_i rfl rfl rfl
          · refine ⟨x, y, m, h, ⟨x9.2, y9.2, m9.1, m9.2, hh1⟩, ⟨?_, ?_, ?_, ?_⟩, ?_, ?_, ?_, ?_⟩
            · show A4.1 135 L = _
              exact (s3.i (by omega)).trans ((qb_ui_1n (by omega)).trans ((g7.i (by omega)).trans ((b7.i (by omega)).trans a6)))
            · show A4.1 136 L = _
              exact (s3.i (by omega)).trans ((qb_ui_1n (by omega)).trans ((g7.i (by omega)).trans b6))
            · show A4.1 137 L = _
              exact (s3.i (by omega)).trans ((qb_ui_1n (by omega)).trans g6)
            · show A4.1 138 L = _
              exact (s3.i (by omega)).trans qb_ui_1s
            · show (qb_ui B4 209 (5 * L + 4) (nI h)).1 209 (5 * L + 1) = _
              exact (qb_ui_1n (by omega)).trans ((t3.i (by omega)).trans ((qb_ui_1n (by omega)).trans ((g8.i (by omega)).trans ((b8.i (by omega)).trans (by rw [hN1]; exact qb_ui_1s)))))
            · show (qb_ui B4 209 (5 * L + 4) (nI h)).1 209 (5 * L + 2) = _
              exact (qb_ui_1n (by omega)).trans ((t3.i (by omega)).trans ((qb_ui_1n (by omega)).trans ((g8.i (by omega)).trans (by rw [hN2]; exact qb_ui_1s))))
            · show (qb_ui B4 209 (5 * L + 4) (nI h)).1 209 (5 * L + 3) = _
              exact (qb_ui_1n (by omega)).trans ((t3.i (by omega)).trans ((qb_ui_1n (by omega)).trans (by rw [hN3]; exact qb_ui_1s)))
            · show (qb_ui B4 209 (5 * L + 4) (nI h)).1 209 (5 * L + 4) = _
              exact qb_ui_1s
        · have hb : ∀ u, qe (d' + 4) 179 [.ref 192, .int (nI 1)] (qb_hp (qj u N3), 149, c) = some (some (.int (0)), (qb_hp (qj u (fM N3 1 (tx_p n l b p3))), 149, c)) := fun u => by
            have hb := pm_bad (d' + 3) c g5 1 u
            rw [ite_self] at hb
            exact hb
          refine bo_fail (A := A3) (B := N3) (f := 1) (pl := tx_p n l b p3) (P1 := kF) (Q1 := kF) (fun u => c3 u _ ?_) (fun u => m3 u _ ?_) (tx_p9 g4) (gA3.mo (fun x k h => by unfold kF; omega)) (gB3.mo (fun x k h => by unfold kF; omega)) (fun x j h => kG_of h)
          · refine go_ald_3_1 rfl ?_
            refine go_c rfl ?_
            refine go_call2 rfl (i6 u) (Nat.le_of_ble_eq_true rfl) (qb_qv rfl (by decide) (by decide)) ?_
            refine go_ifne rfl (fun e => ?_) (fun e => ?_)
            · refine go_ald_3_1 rfl ?_
              refine go_c rfl ?_
              refine go_call2 rfl (i7 u) (Nat.le_of_ble_eq_true rfl) (qb_qv rfl (by decide) (by decide)) ?_
              refine go_ifne rfl (fun e2 => ?_) (fun e2 => ?_)
              · refine go_ald_3_1 rfl ?_
                refine go_c rfl ?_
                refine go_call2 rfl (pc_fail (d + 4) c g4 1 u) (Nat.le_of_ble_eq_true rfl) (qb_qv rfl (by decide) (by decide)) ?_
                exact fin_i rfl rfl rfl
              · exact absurd (qB_f (fun z => hh ⟨z.1, Or.inr z.2⟩)) e2
            · exact absurd (qB_f (fun z => hh ⟨z.1, Or.inl z.2⟩)) e
          · have hrh : qe (d' + 5) 273 [.ref 192] (qb_hp (qj u N3), 149, c) = some (some (.int (0)), (qb_hp (qj u (fM N3 1 (tx_p n l b p3))), 149, c)) := by
              refine (en_273 (d' + 4) 192 _).trans ?_
              refine go_ald_1_0 rfl ?_
              refine go_c rfl ?_
              refine go_call2 rfl (j9 u) (Nat.le_of_ble_eq_true rfl) (qb_qv rfl (by decide) (by decide)) ?_
              refine go_ifne rfl (fun e => ?_) (fun e => ?_)
              · refine go_ald_1_0 rfl ?_
                refine go_c rfl ?_
                refine go_call2 rfl (j10 u) (Nat.le_of_ble_eq_true rfl) (qb_qv rfl (by decide) (by decide)) ?_
                refine go_ifne rfl (fun e2 => ?_) (fun e2 => ?_)
                · refine go_ald_1_0 rfl ?_
                  refine go_c rfl ?_
                  refine go_call2 rfl (hb u) (Nat.le_of_ble_eq_true rfl) (qb_qv rfl (by decide) (by decide)) ?_
                  exact fin_i rfl rfl rfl
                · exact absurd (qB_f (fun z => hh ⟨z.1, Or.inr z.2⟩)) e2
              · exact absurd (qB_f (fun z => hh ⟨z.1, Or.inl z.2⟩)) e
            refine go_ald_2_0 rfl ?_
            refine go_ild_2_1 rfl ?_
            refine go_c rfl ?_
            refine go_iadd rfl ?_
            rw [show (4 : Int32) = nI 4 from rfl, i2]
            refine go_ald_2_0 rfl ?_
            refine go_call1 rfl (hrh) (Nat.le_of_ble_eq_true rfl) (qb_qv rfl (by decide) (by decide)) ?_
            refine go_call3 rfl (pm_keep0 (d' + 4) _ c _) (Nat.le_of_ble_eq_true rfl) (qb_qv rfl (by decide) (by decide)) ?_
            refine go_ifeq rfl (fun e => ?_) (fun e => ?_)
            · exact mF _ u _ _
            · exact absurd rfl e
      · refine bo_fail (A := A2) (B := N2) (f := f) (pl := tx_p n l b p2) (P1 := kF) (Q1 := kF) (fun u => c2 u _ ?_) (fun u => m2 u _ ?_) (tx_p9 b4) ((a7.mo (fun x k h => by unfold kF; omega)).tr (b7.mo (fun x k h => by unfold kF; omega))) ((a8.mo (fun x k h => by unfold kF; omega)).tr (b8.mo (fun x k h => by unfold kF; omega))) (fun x j h => kG_of h)
        · refine go_ald_3_0 rfl ?_
          refine go_ald_3_1 rfl ?_
          refine go_ald_3_0 rfl ?_
          refine go_getr rfl ⟨_, rfl, rfl, by decide, by decide⟩ ?_
          refine go_c rfl ?_
          refine go_c rfl ?_
          refine go_call5 rfl (f1 u) (Nat.le_of_ble_eq_true rfl) (qb_qv rfl (by decide) (by decide)) ?_
          refine go_ifeq rfl (fun e => ?_) (fun e => ?_)
          · exact cF _ u _ _
          · exact absurd rfl e
        · refine go_ald_2_0 rfl ?_
          refine go_ild_2_1 rfl ?_
          refine go_c rfl ?_
          refine go_iadd rfl ?_
          rw [show (3 : Int32) = nI 3 from rfl, i2]
          refine go_ald_2_0 rfl ?_
          refine go_c rfl ?_
          refine go_c rfl ?_
          refine go_call3 rfl (f2 u) (Nat.le_of_ble_eq_true rfl) (qb_qv rfl (by decide) (by decide)) ?_
          refine go_call3 rfl (pm_keep0 (d' + 4) _ c _) (Nat.le_of_ble_eq_true rfl) (qb_qv rfl (by decide) (by decide)) ?_
          refine go_ifeq rfl (fun e => ?_) (fun e => ?_)
          · exact mF _ u _ _
          · exact absurd rfl e
    · refine bo_fail (A := A1) (B := N1) (f := f) (pl := tx_p n l b p1) (P1 := kF) (Q1 := kF) (fun u => c1 u _ ?_) (fun u => m1 u _ ?_) (tx_p9 a4) (a7.mo (fun x k h => by unfold kF; omega)) (a8.mo (fun x k h => by unfold kF; omega)) (fun x j h => kG_of h)
      · refine go_ald_3_0 rfl ?_
        refine go_ald_3_1 rfl ?_
        refine go_ald_3_0 rfl ?_
        refine go_getr rfl ⟨_, rfl, rfl, by decide, by decide⟩ ?_
        refine go_c rfl ?_
        refine go_c rfl ?_
        refine go_call5 rfl (f1 u) (Nat.le_of_ble_eq_true rfl) (qb_qv rfl (by decide) (by decide)) ?_
        refine go_ifeq rfl (fun e => ?_) (fun e => ?_)
        · exact cF _ u _ _
        · exact absurd rfl e
      · refine go_ald_2_0 rfl ?_
        refine go_ild_2_1 rfl ?_
        refine go_c rfl ?_
        refine go_iadd rfl ?_
        rw [show (2 : Int32) = nI 2 from rfl, i2]
        refine go_ald_2_0 rfl ?_
        refine go_c rfl ?_
        refine go_c rfl ?_
        refine go_call3 rfl (f2 u) (Nat.le_of_ble_eq_true rfl) (qb_qv rfl (by decide) (by decide)) ?_
        refine go_call3 rfl (pm_keep0 (d' + 4) _ c _) (Nat.le_of_ble_eq_true rfl) (qb_qv rfl (by decide) (by decide)) ?_
        refine go_ifeq rfl (fun e => ?_) (fun e => ?_)
        · exact mF _ u _ _
        · exact absurd rfl e
  · refine bo_fail (A := M) (B := M) (f := f) (pl := tx_p n l b p) (P1 := kF) (Q1 := kF) (fun u => ?_) (fun u => ?_) (tx_p9 hC) qG.rf qG.rf (fun x j h => kG_of h)
    · refine (en_134 (d + 5) 133 65 _).trans ?_
      refine go_ald_3_0 rfl ?_
      refine go_ald_3_1 rfl ?_
      refine go_ald_3_0 rfl ?_
      refine go_getr rfl ⟨_, rfl, rfl, by decide, by decide⟩ ?_
      refine go_c rfl ?_
      refine go_c rfl ?_
      refine go_call5 rfl (f1 u) (Nat.le_of_ble_eq_true rfl) (qb_qv rfl (by decide) (by decide)) ?_
      refine go_ifeq rfl (fun e => ?_) (fun e => ?_)
      · exact cF _ u _ _
      · exact absurd rfl e
    · refine (en_271 (d' + 5) 192 (nI (5 * L)) _).trans ?_
      refine go_ald_2_0 rfl ?_
      refine go_ild_2_1 rfl ?_
      refine go_c rfl ?_
      refine go_iadd rfl ?_
      rw [nI_1]
      refine go_ald_2_0 rfl ?_
      refine go_c rfl ?_
      refine go_c rfl ?_
      refine go_call3 rfl (f2 u) (Nat.le_of_ble_eq_true rfl) (qb_qv rfl (by decide) (by decide)) ?_
      refine go_call3 rfl (pm_keep0 (d' + 4) _ c _) (Nat.le_of_ble_eq_true rfl) (qb_qv rfl (by decide) (by decide)) ?_
      refine go_ifeq rfl (fun e => ?_) (fun e => ?_)
      · exact mF _ u _ _
      · exact absurd rfl e
