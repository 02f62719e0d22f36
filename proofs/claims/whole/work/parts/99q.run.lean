/-! THE LAW'S LOOP -/
theorem go_xa {o : qa_O} {cd : qa_Cd} {pc n : Nat} {R : Option (Option Value × qa_H)} {L S : List Value} {h : qa_H} {N j : Nat} {xs : Nat → Int32} (hc : cd pc = some (qa_p (qp_xa N xs n))) (hj : j < N) (hN : N ≤ 384) (k : qa_lm o cd (n, L, .int (xs j) :: S, h) = R) : qa_lm o cd (pc, L, .int (nI j) :: .ref 40 :: S, h) = R := (qa_go hc (by
  unfold qa_p qp_xa
  dsimp only
  rw [if_pos ⟨rfl, nI_in hj (by omega)⟩, nI_clamp (by omega)])).trans k
theorem go_xl {o : qa_O} {cd : qa_Cd} {pc n : Nat} {R : Option (Option Value × qa_H)} {L S : List Value} {h : qa_H} {N : Nat} (hc : cd pc = some (qa_p (qp_xl N n))) (k : qa_lm o cd (n, L, .int (nI N) :: S, h) = R) : qa_lm o cd (pc, L, .ref 40 :: S, h) = R := (qa_go hc rfl).trans k
theorem go_arg {o : qa_O} {cd : qa_Cd} {pc pc1 pc2 pc3 pc4 n : Nat} {R : Option (Option Value × qa_H)} {S : List Value} {h : qa_H} {N i j : Nat} {xs : Nat → Int32} {a1 a2 a3 a5 a6 : Value} {v : Int32} (h0 : cd pc = some (qa_p (qp_ald 0 pc1))) (h1 : cd pc1 = some (qa_p (qp_ild 4 pc2))) (h2 : cd pc2 = some (qa_p (qp_c (.int v) pc3))) (h3 : cd pc3 = some (qa_p (qp_iadd pc4))) (h4 : cd pc4 = some (qa_p (qp_xa N xs n))) (hv : v = nI j) (hj : i + j < N) (hN : N ≤ 384) (k : qa_lm o cd (n, [.ref 40, a1, a2, a3, .int (nI i), a5, a6], .int (xs (i + j)) :: S, h) = R) : qa_lm o cd (pc, [.ref 40, a1, a2, a3, .int (nI i), a5, a6], S, h) = R := by
  refine go_ald_7_0 h0 ?_
  refine go_ild_7_4 h1 ?_
  refine go_c h2 ?_
  refine go_iadd h3 ?_
  rw [hv, nI_add]
  exact go_xa h4 hj hN k
set_option maxRecDepth 100000 in
theorem la_feed {N : Nat} {xs : Nat → Int32} {c : Nat × Nat} {s : qb_M} (hZ : qZ s) {i : Nat} (hi : i + 6 ≤ N) (hN : N ≤ 384) (l5 l6 : Value) : ∃ u, qZ u ∧ ∀ R, qa_lm (qe 100) (qa_cd (qc_law N xs)) (1225, [.ref 40, .ref 64, .ref 192, .ref 212, .int (nI (i)), l5, l6], [], (qb_hp u, 149, c)) = R → qa_lm (qe 100) (qa_cd (qc_law N xs)) (208, [.ref 40, .ref 64, .ref 192, .ref 212, .int (nI (i)), l5, l6], [], (qb_hp s, 149, c)) = R := by
  obtain ⟨v, t, u, e1, e2, hu⟩ := qT_feed 80 (xs (i + 1)) (xs (i + 2)) (xs (i + 3)) (xs (i + 4)) (xs (i + 5)) s c hZ
  refine ⟨u, hu, fun R hR => ?_⟩
  refine go_ald_7_1 rfl ?_
  refine go_arg (j := 1) rfl rfl rfl rfl rfl rfl (by omega) hN ?_
  refine go_arg (j := 2) rfl rfl rfl rfl rfl rfl (by omega) hN ?_
  refine go_arg (j := 3) rfl rfl rfl rfl rfl rfl (by omega) hN ?_
  refine go_arg (j := 4) rfl rfl rfl rfl rfl rfl (by omega) hN ?_
  refine go_arg (j := 5) rfl rfl rfl rfl rfl rfl (by omega) hN ?_
  refine go_call6 rfl e1 (Nat.le_of_ble_eq_true rfl) (qb_qv rfl (by decide) (by decide)) ?_
  refine go_ald_7_2 rfl ?_
  refine go_arg (j := 1) rfl rfl rfl rfl rfl rfl (by omega) hN ?_
  refine go_arg (j := 2) rfl rfl rfl rfl rfl rfl (by omega) hN ?_
  refine go_arg (j := 3) rfl rfl rfl rfl rfl rfl (by omega) hN ?_
  refine go_arg (j := 4) rfl rfl rfl rfl rfl rfl (by omega) hN ?_
  refine go_arg (j := 5) rfl rfl rfl rfl rfl rfl (by omega) hN ?_
  refine go_call6 rfl e2 (Nat.le_of_ble_eq_true rfl) (qb_qv rfl (by decide) (by decide)) ?_
  exact go_iceq rfl (fun _ => hR) (fun e => absurd rfl e)
set_option maxRecDepth 100000 in
theorem la_end {N : Nat} {xs : Nat → Int32} {c : Nat × Nat} {s : qb_M} (hZ : qZ s) {i : Nat} (hi : i + 6 ≤ N) (hN : N ≤ 384) (l5 l6 : Value) : ∃ u, qZ u ∧ ∀ R, qa_lm (qe 100) (qa_cd (qc_law N xs)) (1225, [.ref 40, .ref 64, .ref 192, .ref 212, .int (nI (i)), l5, l6], [], (qb_hp u, 149, c)) = R → qa_lm (qe 100) (qa_cd (qc_law N xs)) (281, [.ref 40, .ref 64, .ref 192, .ref 212, .int (nI (i)), l5, l6], [], (qb_hp s, 149, c)) = R := by
  obtain ⟨v, t, u, e1, e2, hu⟩ := qT_end 80 (xs (i + 1)) s c hZ
  refine ⟨u, hu, fun R hR => ?_⟩
  refine go_ald_7_1 rfl ?_
  refine go_arg (j := 1) rfl rfl rfl rfl rfl rfl (by omega) hN ?_
  refine go_call2 rfl e1 (Nat.le_of_ble_eq_true rfl) (qb_qv rfl (by decide) (by decide)) ?_
  refine go_ald_7_2 rfl ?_
  refine go_arg (j := 1) rfl rfl rfl rfl rfl rfl (by omega) hN ?_
  refine go_call2 rfl e2 (Nat.le_of_ble_eq_true rfl) (qb_qv rfl (by decide) (by decide)) ?_
  exact go_iceq rfl (fun _ => hR) (fun e => absurd rfl e)
set_option maxRecDepth 100000 in
theorem la_board {N : Nat} {xs : Nat → Int32} {c : Nat × Nat} {s : qb_M} (hZ : qZ s) {i : Nat} (hi : i + 6 ≤ N) (hN : N ≤ 384) (l5 l6 : Value) : ∃ u, qZ u ∧ ∀ R, qa_lm (qe 100) (qa_cd (qc_law N xs)) (1225, [.ref 40, .ref 64, .ref 192, .ref 212, .int (nI (i)), l5, l6], [], (qb_hp u, 149, c)) = R → qa_lm (qe 100) (qa_cd (qc_law N xs)) (306, [.ref 40, .ref 64, .ref 192, .ref 212, .int (nI (i)), l5, l6], [], (qb_hp s, 149, c)) = R := by
  obtain ⟨v, t, u, e1, e2, hu⟩ := qT_board 80  s c hZ
  refine ⟨u, hu, fun R hR => ?_⟩
  refine go_ald_7_1 rfl ?_
  refine go_call1 rfl e1 (Nat.le_of_ble_eq_true rfl) (qb_qv rfl (by decide) (by decide)) ?_
  refine go_ald_7_2 rfl ?_
  refine go_call1 rfl e2 (Nat.le_of_ble_eq_true rfl) (qb_qv rfl (by decide) (by decide)) ?_
  exact go_iceq rfl (fun _ => hR) (fun e => absurd rfl e)
set_option maxRecDepth 100000 in
theorem la_fault {N : Nat} {xs : Nat → Int32} {c : Nat × Nat} {s : qb_M} (hZ : qZ s) {i : Nat} (hi : i + 6 ≤ N) (hN : N ≤ 384) (l5 l6 : Value) : ∃ u, qZ u ∧ ∀ R, qa_lm (qe 100) (qa_cd (qc_law N xs)) (1225, [.ref 40, .ref 64, .ref 192, .ref 212, .int (nI (i)), l5, l6], [], (qb_hp u, 149, c)) = R → qa_lm (qe 100) (qa_cd (qc_law N xs)) (319, [.ref 40, .ref 64, .ref 192, .ref 212, .int (nI (i)), l5, l6], [], (qb_hp s, 149, c)) = R := by
  obtain ⟨v, t, u, e1, e2, hu⟩ := qT_fault 80  s c hZ
  refine ⟨u, hu, fun R hR => ?_⟩
  refine go_ald_7_1 rfl ?_
  refine go_call1 rfl e1 (Nat.le_of_ble_eq_true rfl) (qb_qv rfl (by decide) (by decide)) ?_
  refine go_ald_7_2 rfl ?_
  refine go_call1 rfl e2 (Nat.le_of_ble_eq_true rfl) (qb_qv rfl (by decide) (by decide)) ?_
  exact go_iceq rfl (fun _ => hR) (fun e => absurd rfl e)
set_option maxRecDepth 100000 in
theorem la_line {N : Nat} {xs : Nat → Int32} {c : Nat × Nat} {s : qb_M} (hZ : qZ s) {i : Nat} (hi : i + 6 ≤ N) (hN : N ≤ 384) (l5 l6 : Value) : ∃ u, qZ u ∧ ∀ R, qa_lm (qe 100) (qa_cd (qc_law N xs)) (1225, [.ref 40, .ref 64, .ref 192, .ref 212, .int (nI (i)), l5, l6], [], (qb_hp u, 149, c)) = R → qa_lm (qe 100) (qa_cd (qc_law N xs)) (400, [.ref 40, .ref 64, .ref 192, .ref 212, .int (nI (i)), l5, l6], [], (qb_hp s, 149, c)) = R := by
  obtain ⟨v, t, u, e1, e2, hu⟩ := qT_line 80 (xs (i + 1)) (xs (i + 2)) s c hZ
  refine ⟨u, hu, fun R hR => ?_⟩
  refine go_ald_7_1 rfl ?_
  refine go_arg (j := 1) rfl rfl rfl rfl rfl rfl (by omega) hN ?_
  refine go_arg (j := 2) rfl rfl rfl rfl rfl rfl (by omega) hN ?_
  refine go_call3 rfl e1 (Nat.le_of_ble_eq_true rfl) (qb_qv rfl (by decide) (by decide)) ?_
  refine go_ald_7_2 rfl ?_
  refine go_arg (j := 1) rfl rfl rfl rfl rfl rfl (by omega) hN ?_
  refine go_arg (j := 2) rfl rfl rfl rfl rfl rfl (by omega) hN ?_
  refine go_call3 rfl e2 (Nat.le_of_ble_eq_true rfl) (qb_qv rfl (by decide) (by decide)) ?_
  exact go_iceq rfl (fun _ => hR) (fun e => absurd rfl e)
set_option maxRecDepth 100000 in
theorem la_out {N : Nat} {xs : Nat → Int32} {c : Nat × Nat} {s : qb_M} (hZ : qZ s) {i : Nat} (hi : i + 6 ≤ N) (hN : N ≤ 384) (l5 l6 : Value) : ∃ u, qZ u ∧ ∀ R, qa_lm (qe 100) (qa_cd (qc_law N xs)) (1225, [.ref 40, .ref 64, .ref 192, .ref 212, .int (nI (i)), l5, l6], [], (qb_hp u, 149, c)) = R → qa_lm (qe 100) (qa_cd (qc_law N xs)) (437, [.ref 40, .ref 64, .ref 192, .ref 212, .int (nI (i)), l5, l6], [], (qb_hp s, 149, c)) = R := by
  obtain ⟨v, t, u, e1, e2, hu⟩ := qT_out 80 (xs (i + 1)) s c hZ
  refine ⟨u, hu, fun R hR => ?_⟩
  refine go_ald_7_1 rfl ?_
  refine go_arg (j := 1) rfl rfl rfl rfl rfl rfl (by omega) hN ?_
  refine go_call2 rfl e1 (Nat.le_of_ble_eq_true rfl) (qb_qv rfl (by decide) (by decide)) ?_
  refine go_ald_7_2 rfl ?_
  refine go_arg (j := 1) rfl rfl rfl rfl rfl rfl (by omega) hN ?_
  refine go_call2 rfl e2 (Nat.le_of_ble_eq_true rfl) (qb_qv rfl (by decide) (by decide)) ?_
  exact go_iceq rfl (fun _ => hR) (fun e => absurd rfl e)
set_option maxRecDepth 100000 in
theorem la_way {N : Nat} {xs : Nat → Int32} {c : Nat × Nat} {s : qb_M} (hZ : qZ s) {i : Nat} (hi : i + 6 ≤ N) (hN : N ≤ 384) (l5 l6 : Value) : ∃ u, qZ u ∧ ∀ R, qa_lm (qe 100) (qa_cd (qc_law N xs)) (1225, [.ref 40, .ref 64, .ref 192, .ref 212, .int (nI (i)), l5, l6], [], (qb_hp u, 149, c)) = R → qa_lm (qe 100) (qa_cd (qc_law N xs)) (462, [.ref 40, .ref 64, .ref 192, .ref 212, .int (nI (i)), l5, l6], [], (qb_hp s, 149, c)) = R := by
  obtain ⟨v, t, u, e1, e2, hu⟩ := qT_way 80 (xs (i + 1)) (xs (i + 2)) s c hZ
  refine ⟨u, hu, fun R hR => ?_⟩
  refine go_ald_7_1 rfl ?_
  refine go_arg (j := 1) rfl rfl rfl rfl rfl rfl (by omega) hN ?_
  refine go_arg (j := 2) rfl rfl rfl rfl rfl rfl (by omega) hN ?_
  refine go_call3 rfl e1 (Nat.le_of_ble_eq_true rfl) (qb_qv rfl (by decide) (by decide)) ?_
  refine go_ald_7_2 rfl ?_
  refine go_arg (j := 1) rfl rfl rfl rfl rfl rfl (by omega) hN ?_
  refine go_arg (j := 2) rfl rfl rfl rfl rfl rfl (by omega) hN ?_
  refine go_call3 rfl e2 (Nat.le_of_ble_eq_true rfl) (qb_qv rfl (by decide) (by decide)) ?_
  exact go_iceq rfl (fun _ => hR) (fun e => absurd rfl e)
set_option maxRecDepth 100000 in
theorem la_now {N : Nat} {xs : Nat → Int32} {c : Nat × Nat} {s : qb_M} (hZ : qZ s) {i : Nat} (hi : i + 6 ≤ N) (hN : N ≤ 384) (l5 l6 : Value) : ∃ u, qZ u ∧ ∀ R, qa_lm (qe 100) (qa_cd (qc_law N xs)) (1225, [.ref 40, .ref 64, .ref 192, .ref 212, .int (nI (i)), l5, l6], [], (qb_hp u, 149, c)) = R → qa_lm (qe 100) (qa_cd (qc_law N xs)) (499, [.ref 40, .ref 64, .ref 192, .ref 212, .int (nI (i)), l5, l6], [], (qb_hp s, 149, c)) = R := by
  obtain ⟨v, t, u, e1, e2, hu⟩ := qT_now 80 (xs (i + 1)) s c hZ
  refine ⟨u, hu, fun R hR => ?_⟩
  refine go_ald_7_1 rfl ?_
  refine go_arg (j := 1) rfl rfl rfl rfl rfl rfl (by omega) hN ?_
  refine go_call2 rfl e1 (Nat.le_of_ble_eq_true rfl) (qb_qv rfl (by decide) (by decide)) ?_
  refine go_ald_7_2 rfl ?_
  refine go_arg (j := 1) rfl rfl rfl rfl rfl rfl (by omega) hN ?_
  refine go_call2 rfl e2 (Nat.le_of_ble_eq_true rfl) (qb_qv rfl (by decide) (by decide)) ?_
  exact go_iceq rfl (fun _ => hR) (fun e => absurd rfl e)
set_option maxRecDepth 100000 in
theorem la_call {N : Nat} {xs : Nat → Int32} {c : Nat × Nat} {s : qb_M} (hZ : qZ s) {i : Nat} (hi : i + 6 ≤ N) (hN : N ≤ 384) (l5 l6 : Value) : ∃ u, qZ u ∧ ∀ R, qa_lm (qe 100) (qa_cd (qc_law N xs)) (1225, [.ref 40, .ref 64, .ref 192, .ref 212, .int (nI (i)), l5, l6], [], (qb_hp u, 149, c)) = R → qa_lm (qe 100) (qa_cd (qc_law N xs)) (524, [.ref 40, .ref 64, .ref 192, .ref 212, .int (nI (i)), l5, l6], [], (qb_hp s, 149, c)) = R := by
  obtain ⟨v, t, u, e1, e2, hu⟩ := qT_call 80 (xs (i + 1)) (xs (i + 2)) (xs (i + 3)) (xs (i + 4)) s c hZ
  refine ⟨u, hu, fun R hR => ?_⟩
  refine go_ald_7_1 rfl ?_
  refine go_arg (j := 1) rfl rfl rfl rfl rfl rfl (by omega) hN ?_
  refine go_arg (j := 2) rfl rfl rfl rfl rfl rfl (by omega) hN ?_
  refine go_arg (j := 3) rfl rfl rfl rfl rfl rfl (by omega) hN ?_
  refine go_arg (j := 4) rfl rfl rfl rfl rfl rfl (by omega) hN ?_
  refine go_call5 rfl e1 (Nat.le_of_ble_eq_true rfl) (qb_qv rfl (by decide) (by decide)) ?_
  refine go_ald_7_2 rfl ?_
  refine go_arg (j := 1) rfl rfl rfl rfl rfl rfl (by omega) hN ?_
  refine go_arg (j := 2) rfl rfl rfl rfl rfl rfl (by omega) hN ?_
  refine go_arg (j := 3) rfl rfl rfl rfl rfl rfl (by omega) hN ?_
  refine go_arg (j := 4) rfl rfl rfl rfl rfl rfl (by omega) hN ?_
  refine go_call5 rfl e2 (Nat.le_of_ble_eq_true rfl) (qb_qv rfl (by decide) (by decide)) ?_
  exact go_iceq rfl (fun _ => hR) (fun e => absurd rfl e)
set_option maxRecDepth 100000 in
theorem la_hang {N : Nat} {xs : Nat → Int32} {c : Nat × Nat} {s : qb_M} (hZ : qZ s) {i : Nat} (hi : i + 6 ≤ N) (hN : N ≤ 384) (l5 l6 : Value) : ∃ u, qZ u ∧ ∀ R, qa_lm (qe 100) (qa_cd (qc_law N xs)) (1225, [.ref 40, .ref 64, .ref 192, .ref 212, .int (nI (i)), l5, l6], [], (qb_hp u, 149, c)) = R → qa_lm (qe 100) (qa_cd (qc_law N xs)) (585, [.ref 40, .ref 64, .ref 192, .ref 212, .int (nI (i)), l5, l6], [], (qb_hp s, 149, c)) = R := by
  obtain ⟨v, t, u, e1, e2, hu⟩ := qT_hang 80 (xs (i + 1)) s c hZ
  refine ⟨u, hu, fun R hR => ?_⟩
  refine go_ald_7_1 rfl ?_
  refine go_arg (j := 1) rfl rfl rfl rfl rfl rfl (by omega) hN ?_
  refine go_call2 rfl e1 (Nat.le_of_ble_eq_true rfl) (qb_qv rfl (by decide) (by decide)) ?_
  refine go_ald_7_2 rfl ?_
  refine go_arg (j := 1) rfl rfl rfl rfl rfl rfl (by omega) hN ?_
  refine go_call2 rfl e2 (Nat.le_of_ble_eq_true rfl) (qb_qv rfl (by decide) (by decide)) ?_
  exact go_iceq rfl (fun _ => hR) (fun e => absurd rfl e)
set_option maxRecDepth 100000 in
theorem la_turn {N : Nat} {xs : Nat → Int32} {c : Nat × Nat} {s : qb_M} (hZ : qZ s) {i : Nat} (hi : i + 6 ≤ N) (hN : N ≤ 384) (l5 l6 : Value) : ∃ u, qZ u ∧ ∀ R, qa_lm (qe 100) (qa_cd (qc_law N xs)) (1225, [.ref 40, .ref 64, .ref 192, .ref 212, .int (nI (i)), l5, l6], [], (qb_hp u, 149, c)) = R → qa_lm (qe 100) (qa_cd (qc_law N xs)) (610, [.ref 40, .ref 64, .ref 192, .ref 212, .int (nI (i)), l5, l6], [], (qb_hp s, 149, c)) = R := by
  obtain ⟨v, t, u, e1, e2, hu⟩ := qT_turn 80 (xs (i + 1)) s c hZ
  refine ⟨u, hu, fun R hR => ?_⟩
  refine go_ald_7_1 rfl ?_
  refine go_arg (j := 1) rfl rfl rfl rfl rfl rfl (by omega) hN ?_
  refine go_call2 rfl e1 (Nat.le_of_ble_eq_true rfl) (qb_qv rfl (by decide) (by decide)) ?_
  refine go_ald_7_2 rfl ?_
  refine go_arg (j := 1) rfl rfl rfl rfl rfl rfl (by omega) hN ?_
  refine go_call2 rfl e2 (Nat.le_of_ble_eq_true rfl) (qb_qv rfl (by decide) (by decide)) ?_
  exact go_iceq rfl (fun _ => hR) (fun e => absurd rfl e)
set_option maxRecDepth 100000 in
theorem la_jam {N : Nat} {xs : Nat → Int32} {c : Nat × Nat} {s : qb_M} (hZ : qZ s) {i : Nat} (hi : i + 6 ≤ N) (hN : N ≤ 384) (l5 l6 : Value) : ∃ u, qZ u ∧ ∀ R, qa_lm (qe 100) (qa_cd (qc_law N xs)) (1225, [.ref 40, .ref 64, .ref 192, .ref 212, .int (nI (i)), l5, l6], [], (qb_hp u, 149, c)) = R → qa_lm (qe 100) (qa_cd (qc_law N xs)) (635, [.ref 40, .ref 64, .ref 192, .ref 212, .int (nI (i)), l5, l6], [], (qb_hp s, 149, c)) = R := by
  obtain ⟨v, t, u, e1, e2, hu⟩ := qT_jam 80 (xs (i + 1)) s c hZ
  refine ⟨u, hu, fun R hR => ?_⟩
  refine go_ald_7_1 rfl ?_
  refine go_arg (j := 1) rfl rfl rfl rfl rfl rfl (by omega) hN ?_
  refine go_call2 rfl e1 (Nat.le_of_ble_eq_true rfl) (qb_qv rfl (by decide) (by decide)) ?_
  refine go_ald_7_2 rfl ?_
  refine go_arg (j := 1) rfl rfl rfl rfl rfl rfl (by omega) hN ?_
  refine go_call2 rfl e2 (Nat.le_of_ble_eq_true rfl) (qb_qv rfl (by decide) (by decide)) ?_
  exact go_iceq rfl (fun _ => hR) (fun e => absurd rfl e)
set_option maxRecDepth 100000 in
theorem la_free {N : Nat} {xs : Nat → Int32} {c : Nat × Nat} {s : qb_M} (hZ : qZ s) {i : Nat} (hi : i + 6 ≤ N) (hN : N ≤ 384) (l5 l6 : Value) : ∃ u, qZ u ∧ ∀ R, qa_lm (qe 100) (qa_cd (qc_law N xs)) (1225, [.ref 40, .ref 64, .ref 192, .ref 212, .int (nI (i)), l5, l6], [], (qb_hp u, 149, c)) = R → qa_lm (qe 100) (qa_cd (qc_law N xs)) (660, [.ref 40, .ref 64, .ref 192, .ref 212, .int (nI (i)), l5, l6], [], (qb_hp s, 149, c)) = R := by
  obtain ⟨v, t, u, e1, e2, hu⟩ := qT_free 80 (xs (i + 1)) s c hZ
  refine ⟨u, hu, fun R hR => ?_⟩
  refine go_ald_7_1 rfl ?_
  refine go_arg (j := 1) rfl rfl rfl rfl rfl rfl (by omega) hN ?_
  refine go_call2 rfl e1 (Nat.le_of_ble_eq_true rfl) (qb_qv rfl (by decide) (by decide)) ?_
  refine go_ald_7_2 rfl ?_
  refine go_arg (j := 1) rfl rfl rfl rfl rfl rfl (by omega) hN ?_
  refine go_call2 rfl e2 (Nat.le_of_ble_eq_true rfl) (qb_qv rfl (by decide) (by decide)) ?_
  exact go_iceq rfl (fun _ => hR) (fun e => absurd rfl e)
set_option maxRecDepth 100000 in
theorem la_hours {N : Nat} {xs : Nat → Int32} {c : Nat × Nat} {s : qb_M} (hZ : qZ s) {i : Nat} (hi : i + 6 ≤ N) (hN : N ≤ 384) (l5 l6 : Value) : ∃ u, qZ u ∧ ∀ R, qa_lm (qe 100) (qa_cd (qc_law N xs)) (1225, [.ref 40, .ref 64, .ref 192, .ref 212, .int (nI (i)), l5, l6], [], (qb_hp u, 149, c)) = R → qa_lm (qe 100) (qa_cd (qc_law N xs)) (685, [.ref 40, .ref 64, .ref 192, .ref 212, .int (nI (i)), l5, l6], [], (qb_hp s, 149, c)) = R := by
  obtain ⟨v, t, u, e1, e2, hu⟩ := qT_hours 80 (xs (i + 1)) s c hZ
  refine ⟨u, hu, fun R hR => ?_⟩
  refine go_ald_7_1 rfl ?_
  refine go_arg (j := 1) rfl rfl rfl rfl rfl rfl (by omega) hN ?_
  refine go_call2 rfl e1 (Nat.le_of_ble_eq_true rfl) (qb_qv rfl (by decide) (by decide)) ?_
  refine go_ald_7_2 rfl ?_
  refine go_arg (j := 1) rfl rfl rfl rfl rfl rfl (by omega) hN ?_
  refine go_call2 rfl e2 (Nat.le_of_ble_eq_true rfl) (qb_qv rfl (by decide) (by decide)) ?_
  exact go_iceq rfl (fun _ => hR) (fun e => absurd rfl e)
set_option maxRecDepth 100000 in
theorem la_undo {N : Nat} {xs : Nat → Int32} {c : Nat × Nat} {s : qb_M} (hZ : qZ s) {i : Nat} (hi : i + 6 ≤ N) (hN : N ≤ 384) (l5 l6 : Value) : ∃ u, qZ u ∧ ∀ R, qa_lm (qe 100) (qa_cd (qc_law N xs)) (1225, [.ref 40, .ref 64, .ref 192, .ref 212, .int (nI (i)), l5, l6], [], (qb_hp u, 149, c)) = R → qa_lm (qe 100) (qa_cd (qc_law N xs)) (710, [.ref 40, .ref 64, .ref 192, .ref 212, .int (nI (i)), l5, l6], [], (qb_hp s, 149, c)) = R := by
  obtain ⟨v, t, u, e1, e2, hu⟩ := qT_undo 80  s c hZ
  refine ⟨u, hu, fun R hR => ?_⟩
  refine go_ald_7_1 rfl ?_
  refine go_call1 rfl e1 (Nat.le_of_ble_eq_true rfl) (qb_qv rfl (by decide) (by decide)) ?_
  refine go_ald_7_2 rfl ?_
  refine go_call1 rfl e2 (Nat.le_of_ble_eq_true rfl) (qb_qv rfl (by decide) (by decide)) ?_
  exact go_iceq rfl (fun _ => hR) (fun e => absurd rfl e)
set_option maxRecDepth 100000 in
theorem la_shifts {N : Nat} {xs : Nat → Int32} {c : Nat × Nat} {s : qb_M} (hZ : qZ s) {i : Nat} (hi : i + 6 ≤ N) (hN : N ≤ 384) (l5 l6 : Value) : ∃ u, qZ u ∧ ∀ R, qa_lm (qe 100) (qa_cd (qc_law N xs)) (1225, [.ref 40, .ref 64, .ref 192, .ref 212, .int (nI (i)), l5, l6], [], (qb_hp u, 149, c)) = R → qa_lm (qe 100) (qa_cd (qc_law N xs)) (723, [.ref 40, .ref 64, .ref 192, .ref 212, .int (nI (i)), l5, l6], [], (qb_hp s, 149, c)) = R := by
  obtain ⟨v, t, u, e1, e2, hu⟩ := qT_shifts 80 (xs (i + 1)) (xs (i + 2)) s c hZ
  refine ⟨u, hu, fun R hR => ?_⟩
  refine go_ald_7_1 rfl ?_
  refine go_arg (j := 1) rfl rfl rfl rfl rfl rfl (by omega) hN ?_
  refine go_arg (j := 2) rfl rfl rfl rfl rfl rfl (by omega) hN ?_
  refine go_call3 rfl e1 (Nat.le_of_ble_eq_true rfl) (qb_qv rfl (by decide) (by decide)) ?_
  refine go_ald_7_2 rfl ?_
  refine go_arg (j := 1) rfl rfl rfl rfl rfl rfl (by omega) hN ?_
  refine go_arg (j := 2) rfl rfl rfl rfl rfl rfl (by omega) hN ?_
  refine go_call3 rfl e2 (Nat.le_of_ble_eq_true rfl) (qb_qv rfl (by decide) (by decide)) ?_
  exact go_iceq rfl (fun _ => hR) (fun e => absurd rfl e)
set_option maxRecDepth 100000 in
theorem la_sets {N : Nat} {xs : Nat → Int32} {c : Nat × Nat} {s : qb_M} (hZ : qZ s) {i : Nat} (hi : i + 6 ≤ N) (hN : N ≤ 384) (l5 l6 : Value) : ∃ u, qZ u ∧ ∀ R, qa_lm (qe 100) (qa_cd (qc_law N xs)) (1225, [.ref 40, .ref 64, .ref 192, .ref 212, .int (nI (i)), l5, l6], [], (qb_hp u, 149, c)) = R → qa_lm (qe 100) (qa_cd (qc_law N xs)) (760, [.ref 40, .ref 64, .ref 192, .ref 212, .int (nI (i)), l5, l6], [], (qb_hp s, 149, c)) = R := by
  obtain ⟨v, t, u, e1, e2, hu⟩ := qT_sets 80  s c hZ
  refine ⟨u, hu, fun R hR => ?_⟩
  refine go_ald_7_1 rfl ?_
  refine go_call1 rfl e1 (Nat.le_of_ble_eq_true rfl) (qb_qv rfl (by decide) (by decide)) ?_
  refine go_ald_7_2 rfl ?_
  refine go_call1 rfl e2 (Nat.le_of_ble_eq_true rfl) (qb_qv rfl (by decide) (by decide)) ?_
  exact go_iceq rfl (fun _ => hR) (fun e => absurd rfl e)
set_option maxRecDepth 100000 in
theorem la_setting {N : Nat} {xs : Nat → Int32} {c : Nat × Nat} {s : qb_M} (hZ : qZ s) {i : Nat} (hi : i + 6 ≤ N) (hN : N ≤ 384) (l5 l6 : Value) : ∃ u, qZ u ∧ ∀ R, qa_lm (qe 100) (qa_cd (qc_law N xs)) (1225, [.ref 40, .ref 64, .ref 192, .ref 212, .int (nI (i)), l5, l6], [], (qb_hp u, 149, c)) = R → qa_lm (qe 100) (qa_cd (qc_law N xs)) (773, [.ref 40, .ref 64, .ref 192, .ref 212, .int (nI (i)), l5, l6], [], (qb_hp s, 149, c)) = R := by
  obtain ⟨v, t, u, e1, e2, hu⟩ := qT_setting 80  s c hZ
  refine ⟨u, hu, fun R hR => ?_⟩
  refine go_ald_7_1 rfl ?_
  refine go_call1 rfl e1 (Nat.le_of_ble_eq_true rfl) (qb_qv rfl (by decide) (by decide)) ?_
  refine go_ald_7_2 rfl ?_
  refine go_call1 rfl e2 (Nat.le_of_ble_eq_true rfl) (qb_qv rfl (by decide) (by decide)) ?_
  exact go_iceq rfl (fun _ => hR) (fun e => absurd rfl e)
set_option maxRecDepth 100000 in
theorem la_orders {N : Nat} {xs : Nat → Int32} {c : Nat × Nat} {s : qb_M} (hZ : qZ s) {i : Nat} (hi : i + 6 ≤ N) (hN : N ≤ 384) (l5 l6 : Value) : ∃ u, qZ u ∧ ∀ R, qa_lm (qe 100) (qa_cd (qc_law N xs)) (1225, [.ref 40, .ref 64, .ref 192, .ref 212, .int (nI (i)), l5, l6], [], (qb_hp u, 149, c)) = R → qa_lm (qe 100) (qa_cd (qc_law N xs)) (786, [.ref 40, .ref 64, .ref 192, .ref 212, .int (nI (i)), l5, l6], [], (qb_hp s, 149, c)) = R := by
  obtain ⟨v, t, u, e1, e2, hu⟩ := qT_orders 80  s c hZ
  refine ⟨u, hu, fun R hR => ?_⟩
  refine go_ald_7_1 rfl ?_
  refine go_call1 rfl e1 (Nat.le_of_ble_eq_true rfl) (qb_qv rfl (by decide) (by decide)) ?_
  refine go_ald_7_2 rfl ?_
  refine go_call1 rfl e2 (Nat.le_of_ble_eq_true rfl) (qb_qv rfl (by decide) (by decide)) ?_
  exact go_iceq rfl (fun _ => hR) (fun e => absurd rfl e)
set_option maxRecDepth 100000 in
theorem la_deaf {N : Nat} {xs : Nat → Int32} {c : Nat × Nat} {s : qb_M} (hZ : qZ s) {i : Nat} (hi : i + 6 ≤ N) (hN : N ≤ 384) (l5 l6 : Value) : ∃ u, qZ u ∧ ∀ R, qa_lm (qe 100) (qa_cd (qc_law N xs)) (1225, [.ref 40, .ref 64, .ref 192, .ref 212, .int (nI (i)), l5, l6], [], (qb_hp u, 149, c)) = R → qa_lm (qe 100) (qa_cd (qc_law N xs)) (799, [.ref 40, .ref 64, .ref 192, .ref 212, .int (nI (i)), l5, l6], [], (qb_hp s, 149, c)) = R := by
  obtain ⟨v, t, u, e1, e2, hu⟩ := qT_deaf 80  s c hZ
  refine ⟨u, hu, fun R hR => ?_⟩
  refine go_ald_7_1 rfl ?_
  refine go_call1 rfl e1 (Nat.le_of_ble_eq_true rfl) (qb_qv rfl (by decide) (by decide)) ?_
  refine go_ald_7_2 rfl ?_
  refine go_call1 rfl e2 (Nat.le_of_ble_eq_true rfl) (qb_qv rfl (by decide) (by decide)) ?_
  exact go_iceq rfl (fun _ => hR) (fun e => absurd rfl e)
set_option maxRecDepth 100000 in
theorem la_deafAt {N : Nat} {xs : Nat → Int32} {c : Nat × Nat} {s : qb_M} (hZ : qZ s) {i : Nat} (hi : i + 6 ≤ N) (hN : N ≤ 384) (l5 l6 : Value) : ∃ u, qZ u ∧ ∀ R, qa_lm (qe 100) (qa_cd (qc_law N xs)) (1225, [.ref 40, .ref 64, .ref 192, .ref 212, .int (nI (i)), l5, l6], [], (qb_hp u, 149, c)) = R → qa_lm (qe 100) (qa_cd (qc_law N xs)) (812, [.ref 40, .ref 64, .ref 192, .ref 212, .int (nI (i)), l5, l6], [], (qb_hp s, 149, c)) = R := by
  obtain ⟨v, t, u, e1, e2, hu⟩ := qT_deafAt 80  s c hZ
  refine ⟨u, hu, fun R hR => ?_⟩
  refine go_ald_7_1 rfl ?_
  refine go_call1 rfl e1 (Nat.le_of_ble_eq_true rfl) (qb_qv rfl (by decide) (by decide)) ?_
  refine go_ald_7_2 rfl ?_
  refine go_call1 rfl e2 (Nat.le_of_ble_eq_true rfl) (qb_qv rfl (by decide) (by decide)) ?_
  exact go_iceq rfl (fun _ => hR) (fun e => absurd rfl e)
set_option maxRecDepth 100000 in
theorem la_key {N : Nat} {xs : Nat → Int32} {c : Nat × Nat} {s : qb_M} (hZ : qZ s) {i : Nat} (hi : i + 6 ≤ N) (hN : N ≤ 384) (l5 l6 : Value) : ∃ u, qZ u ∧ ∀ R, qa_lm (qe 100) (qa_cd (qc_law N xs)) (1225, [.ref 40, .ref 64, .ref 192, .ref 212, .int (nI (i)), l5, l6], [], (qb_hp u, 149, c)) = R → qa_lm (qe 100) (qa_cd (qc_law N xs)) (825, [.ref 40, .ref 64, .ref 192, .ref 212, .int (nI (i)), l5, l6], [], (qb_hp s, 149, c)) = R := by
  obtain ⟨v, t, u, e1, e2, hu⟩ := qT_key 80  s c hZ
  refine ⟨u, hu, fun R hR => ?_⟩
  refine go_ald_7_1 rfl ?_
  refine go_call1 rfl e1 (Nat.le_of_ble_eq_true rfl) (qb_qv rfl (by decide) (by decide)) ?_
  refine go_ald_7_2 rfl ?_
  refine go_call1 rfl e2 (Nat.le_of_ble_eq_true rfl) (qb_qv rfl (by decide) (by decide)) ?_
  exact go_iceq rfl (fun _ => hR) (fun e => absurd rfl e)
set_option maxRecDepth 100000 in
theorem la_faulty {N : Nat} {xs : Nat → Int32} {c : Nat × Nat} {s : qb_M} (hZ : qZ s) {i : Nat} (hi : i + 6 ≤ N) (hN : N ≤ 384) (l5 l6 : Value) : ∃ u, qZ u ∧ ∀ R, qa_lm (qe 100) (qa_cd (qc_law N xs)) (1225, [.ref 40, .ref 64, .ref 192, .ref 212, .int (nI (i)), l5, l6], [], (qb_hp u, 149, c)) = R → qa_lm (qe 100) (qa_cd (qc_law N xs)) (838, [.ref 40, .ref 64, .ref 192, .ref 212, .int (nI (i)), l5, l6], [], (qb_hp s, 149, c)) = R := by
  obtain ⟨v, t, u, e1, e2, hu⟩ := qT_faulty 80  s c hZ
  refine ⟨u, hu, fun R hR => ?_⟩
  refine go_ald_7_1 rfl ?_
  refine go_call1 rfl e1 (Nat.le_of_ble_eq_true rfl) (qb_qv rfl (by decide) (by decide)) ?_
  refine go_ald_7_2 rfl ?_
  refine go_call1 rfl e2 (Nat.le_of_ble_eq_true rfl) (qb_qv rfl (by decide) (by decide)) ?_
  exact go_iceq rfl (fun _ => hR) (fun e => absurd rfl e)
set_option maxRecDepth 100000 in
theorem la_trial {N : Nat} {xs : Nat → Int32} {c : Nat × Nat} {s : qb_M} (hZ : qZ s) {i : Nat} (hi : i + 6 ≤ N) (hN : N ≤ 384) (l5 l6 : Value) : ∃ u, qZ u ∧ ∀ R, qa_lm (qe 100) (qa_cd (qc_law N xs)) (1225, [.ref 40, .ref 64, .ref 192, .ref 212, .int (nI (i)), l5, l6], [], (qb_hp u, 149, c)) = R → qa_lm (qe 100) (qa_cd (qc_law N xs)) (851, [.ref 40, .ref 64, .ref 192, .ref 212, .int (nI (i)), l5, l6], [], (qb_hp s, 149, c)) = R := by
  obtain ⟨v, t, u, e1, e2, hu⟩ := qT_trial 80  s c hZ
  refine ⟨u, hu, fun R hR => ?_⟩
  refine go_ald_7_1 rfl ?_
  refine go_call1 rfl e1 (Nat.le_of_ble_eq_true rfl) (qb_qv rfl (by decide) (by decide)) ?_
  refine go_ald_7_2 rfl ?_
  refine go_call1 rfl e2 (Nat.le_of_ble_eq_true rfl) (qb_qv rfl (by decide) (by decide)) ?_
  exact go_iceq rfl (fun _ => hR) (fun e => absurd rfl e)
set_option maxRecDepth 100000 in
theorem la_hears {N : Nat} {xs : Nat → Int32} {c : Nat × Nat} {s : qb_M} (hZ : qZ s) {i : Nat} (hi : i + 6 ≤ N) (hN : N ≤ 384) (l5 l6 : Value) : ∃ u, qZ u ∧ ∀ R, qa_lm (qe 100) (qa_cd (qc_law N xs)) (1225, [.ref 40, .ref 64, .ref 192, .ref 212, .int (nI (i)), l5, l6], [], (qb_hp u, 149, c)) = R → qa_lm (qe 100) (qa_cd (qc_law N xs)) (864, [.ref 40, .ref 64, .ref 192, .ref 212, .int (nI (i)), l5, l6], [], (qb_hp s, 149, c)) = R := by
  obtain ⟨v, t, u, e1, e2, hu⟩ := qT_hears 80 (xs (i + 1)) s c hZ
  refine ⟨u, hu, fun R hR => ?_⟩
  refine go_ald_7_1 rfl ?_
  refine go_arg (j := 1) rfl rfl rfl rfl rfl rfl (by omega) hN ?_
  refine go_call2 rfl e1 (Nat.le_of_ble_eq_true rfl) (qb_qv rfl (by decide) (by decide)) ?_
  refine go_ald_7_2 rfl ?_
  refine go_arg (j := 1) rfl rfl rfl rfl rfl rfl (by omega) hN ?_
  refine go_call2 rfl e2 (Nat.le_of_ble_eq_true rfl) (qb_qv rfl (by decide) (by decide)) ?_
  exact go_iceq rfl (fun _ => hR) (fun e => absurd rfl e)
set_option maxRecDepth 100000 in
theorem la_share {N : Nat} {xs : Nat → Int32} {c : Nat × Nat} {s : qb_M} (hZ : qZ s) {i : Nat} (hi : i + 6 ≤ N) (hN : N ≤ 384) (l5 l6 : Value) : ∃ u, qZ u ∧ ∀ R, qa_lm (qe 100) (qa_cd (qc_law N xs)) (1225, [.ref 40, .ref 64, .ref 192, .ref 212, .int (nI (i)), l5, l6], [], (qb_hp u, 149, c)) = R → qa_lm (qe 100) (qa_cd (qc_law N xs)) (889, [.ref 40, .ref 64, .ref 192, .ref 212, .int (nI (i)), l5, l6], [], (qb_hp s, 149, c)) = R := by
  obtain ⟨v, t, u, e1, e2, hu⟩ := qT_share 80 (xs (i + 1)) (xs (i + 2)) s c hZ
  refine ⟨u, hu, fun R hR => ?_⟩
  refine go_ald_7_1 rfl ?_
  refine go_arg (j := 1) rfl rfl rfl rfl rfl rfl (by omega) hN ?_
  refine go_arg (j := 2) rfl rfl rfl rfl rfl rfl (by omega) hN ?_
  refine go_call3 rfl e1 (Nat.le_of_ble_eq_true rfl) (qb_qv rfl (by decide) (by decide)) ?_
  refine go_ald_7_2 rfl ?_
  refine go_arg (j := 1) rfl rfl rfl rfl rfl rfl (by omega) hN ?_
  refine go_arg (j := 2) rfl rfl rfl rfl rfl rfl (by omega) hN ?_
  refine go_call3 rfl e2 (Nat.le_of_ble_eq_true rfl) (qb_qv rfl (by decide) (by decide)) ?_
  exact go_iceq rfl (fun _ => hR) (fun e => absurd rfl e)
set_option maxRecDepth 100000 in
theorem la_slip {N : Nat} {xs : Nat → Int32} {c : Nat × Nat} {s : qb_M} (hZ : qZ s) {i : Nat} (hi : i + 6 ≤ N) (hN : N ≤ 384) (l5 l6 : Value) : ∃ u, qZ u ∧ ∀ R, qa_lm (qe 100) (qa_cd (qc_law N xs)) (1225, [.ref 40, .ref 64, .ref 192, .ref 212, .int (nI (i)), l5, l6], [], (qb_hp u, 149, c)) = R → qa_lm (qe 100) (qa_cd (qc_law N xs)) (926, [.ref 40, .ref 64, .ref 192, .ref 212, .int (nI (i)), l5, l6], [], (qb_hp s, 149, c)) = R := by
  obtain ⟨v, t, u, e1, e2, hu⟩ := qT_slip 80 (xs (i + 1)) s c hZ
  refine ⟨u, hu, fun R hR => ?_⟩
  refine go_ald_7_1 rfl ?_
  refine go_arg (j := 1) rfl rfl rfl rfl rfl rfl (by omega) hN ?_
  refine go_call2 rfl e1 (Nat.le_of_ble_eq_true rfl) (qb_qv rfl (by decide) (by decide)) ?_
  refine go_ald_7_2 rfl ?_
  refine go_arg (j := 1) rfl rfl rfl rfl rfl rfl (by omega) hN ?_
  refine go_call2 rfl e2 (Nat.le_of_ble_eq_true rfl) (qb_qv rfl (by decide) (by decide)) ?_
  exact go_iceq rfl (fun _ => hR) (fun e => absurd rfl e)
set_option maxRecDepth 100000 in
theorem la_byteAt {N : Nat} {xs : Nat → Int32} {c : Nat × Nat} {s : qb_M} (hZ : qZ s) {i : Nat} (hi : i + 6 ≤ N) (hN : N ≤ 384) (l5 l6 : Value) : ∃ u, qZ u ∧ ∀ R, qa_lm (qe 100) (qa_cd (qc_law N xs)) (1225, [.ref 40, .ref 64, .ref 192, .ref 212, .int (nI (i)), l5, l6], [], (qb_hp u, 149, c)) = R → qa_lm (qe 100) (qa_cd (qc_law N xs)) (951, [.ref 40, .ref 64, .ref 192, .ref 212, .int (nI (i)), l5, l6], [], (qb_hp s, 149, c)) = R := by
  obtain ⟨v, t, u, e1, e2, hu⟩ := qT_byteAt 80 (xs (i + 1)) s c hZ
  refine ⟨u, hu, fun R hR => ?_⟩
  refine go_ald_7_1 rfl ?_
  refine go_arg (j := 1) rfl rfl rfl rfl rfl rfl (by omega) hN ?_
  refine go_call2 rfl e1 (Nat.le_of_ble_eq_true rfl) (qb_qv rfl (by decide) (by decide)) ?_
  refine go_ald_7_2 rfl ?_
  refine go_arg (j := 1) rfl rfl rfl rfl rfl rfl (by omega) hN ?_
  refine go_call2 rfl e2 (Nat.le_of_ble_eq_true rfl) (qb_qv rfl (by decide) (by decide)) ?_
  exact go_iceq rfl (fun _ => hR) (fun e => absurd rfl e)
set_option maxRecDepth 100000 in
theorem la_drawn {N : Nat} {xs : Nat → Int32} {c : Nat × Nat} {s : qb_M} (hZ : qZ s) {i : Nat} (hi : i + 6 ≤ N) (hN : N ≤ 384) (l5 l6 : Value) : ∃ u, qZ u ∧ ∀ R, qa_lm (qe 100) (qa_cd (qc_law N xs)) (1225, [.ref 40, .ref 64, .ref 192, .ref 212, .int (nI (i)), l5, l6], [], (qb_hp u, 149, c)) = R → qa_lm (qe 100) (qa_cd (qc_law N xs)) (976, [.ref 40, .ref 64, .ref 192, .ref 212, .int (nI (i)), l5, l6], [], (qb_hp s, 149, c)) = R := by
  obtain ⟨v, t, u, e1, e2, hu⟩ := qT_drawn 80 (xs (i + 1)) (xs (i + 2)) s c hZ
  refine ⟨u, hu, fun R hR => ?_⟩
  refine go_ald_7_1 rfl ?_
  refine go_arg (j := 1) rfl rfl rfl rfl rfl rfl (by omega) hN ?_
  refine go_arg (j := 2) rfl rfl rfl rfl rfl rfl (by omega) hN ?_
  refine go_call3 rfl e1 (Nat.le_of_ble_eq_true rfl) (qb_qv rfl (by decide) (by decide)) ?_
  refine go_ald_7_2 rfl ?_
  refine go_arg (j := 1) rfl rfl rfl rfl rfl rfl (by omega) hN ?_
  refine go_arg (j := 2) rfl rfl rfl rfl rfl rfl (by omega) hN ?_
  refine go_call3 rfl e2 (Nat.le_of_ble_eq_true rfl) (qb_qv rfl (by decide) (by decide)) ?_
  exact go_iceq rfl (fun _ => hR) (fun e => absurd rfl e)
set_option maxRecDepth 100000 in
theorem la_odds {N : Nat} {xs : Nat → Int32} {c : Nat × Nat} {s : qb_M} (hZ : qZ s) {i : Nat} (hi : i + 6 ≤ N) (hN : N ≤ 384) (l5 l6 : Value) : ∃ u, qZ u ∧ ∀ R, qa_lm (qe 100) (qa_cd (qc_law N xs)) (1225, [.ref 40, .ref 64, .ref 192, .ref 212, .int (nI (i)), l5, l6], [], (qb_hp u, 149, c)) = R → qa_lm (qe 100) (qa_cd (qc_law N xs)) (1013, [.ref 40, .ref 64, .ref 192, .ref 212, .int (nI (i)), l5, l6], [], (qb_hp s, 149, c)) = R := by
  obtain ⟨v, t, u, e1, e2, hu⟩ := qT_odds 80 (xs (i + 1)) (xs (i + 2)) (xs (i + 3)) s c hZ
  refine ⟨u, hu, fun R hR => ?_⟩
  refine go_ald_7_1 rfl ?_
  refine go_arg (j := 1) rfl rfl rfl rfl rfl rfl (by omega) hN ?_
  refine go_arg (j := 2) rfl rfl rfl rfl rfl rfl (by omega) hN ?_
  refine go_arg (j := 3) rfl rfl rfl rfl rfl rfl (by omega) hN ?_
  refine go_call4 rfl e1 (Nat.le_of_ble_eq_true rfl) (qb_qv rfl (by decide) (by decide)) ?_
  refine go_ald_7_2 rfl ?_
  refine go_arg (j := 1) rfl rfl rfl rfl rfl rfl (by omega) hN ?_
  refine go_arg (j := 2) rfl rfl rfl rfl rfl rfl (by omega) hN ?_
  refine go_arg (j := 3) rfl rfl rfl rfl rfl rfl (by omega) hN ?_
  refine go_call4 rfl e2 (Nat.le_of_ble_eq_true rfl) (qb_qv rfl (by decide) (by decide)) ?_
  exact go_iceq rfl (fun _ => hR) (fun e => absurd rfl e)
set_option maxRecDepth 100000 in
theorem la_book {N : Nat} {xs : Nat → Int32} {c : Nat × Nat} {s : qb_M} (hZ : qZ s) {i : Nat} (hi : i + 6 ≤ N) (hN : N ≤ 384) (l5 l6 : Value) : ∃ u, qZ u ∧ ∀ R, qa_lm (qe 100) (qa_cd (qc_law N xs)) (1225, [.ref 40, .ref 64, .ref 192, .ref 212, .int (nI (i)), l5, l6], [], (qb_hp u, 149, c)) = R → qa_lm (qe 100) (qa_cd (qc_law N xs)) (1062, [.ref 40, .ref 64, .ref 192, .ref 212, .int (nI (i)), l5, l6], [], (qb_hp s, 149, c)) = R := by
  obtain ⟨v, t, u, e1, e2, hu⟩ := qT_book 80 (xs (i + 1)) s c hZ
  refine ⟨u, hu, fun R hR => ?_⟩
  refine go_ald_7_1 rfl ?_
  refine go_arg (j := 1) rfl rfl rfl rfl rfl rfl (by omega) hN ?_
  refine go_call2 rfl e1 (Nat.le_of_ble_eq_true rfl) (qb_qv rfl (by decide) (by decide)) ?_
  refine go_ald_7_2 rfl ?_
  refine go_arg (j := 1) rfl rfl rfl rfl rfl rfl (by omega) hN ?_
  refine go_call2 rfl e2 (Nat.le_of_ble_eq_true rfl) (qb_qv rfl (by decide) (by decide)) ?_
  exact go_iceq rfl (fun _ => hR) (fun e => absurd rfl e)
set_option maxRecDepth 100000 in
theorem la_told {N : Nat} {xs : Nat → Int32} {c : Nat × Nat} {s : qb_M} (hZ : qZ s) {i : Nat} (hi : i + 6 ≤ N) (hN : N ≤ 384) (l5 l6 : Value) : ∃ u, qZ u ∧ ∀ R, qa_lm (qe 100) (qa_cd (qc_law N xs)) (1225, [.ref 40, .ref 64, .ref 192, .ref 212, .int (nI (i)), l5, l6], [], (qb_hp u, 149, c)) = R → qa_lm (qe 100) (qa_cd (qc_law N xs)) (1087, [.ref 40, .ref 64, .ref 192, .ref 212, .int (nI (i)), l5, l6], [], (qb_hp s, 149, c)) = R := by
  obtain ⟨v, t, u, e1, e2, hu⟩ := qT_told 80 (xs (i + 1)) s c hZ
  refine ⟨u, hu, fun R hR => ?_⟩
  refine go_ald_7_1 rfl ?_
  refine go_arg (j := 1) rfl rfl rfl rfl rfl rfl (by omega) hN ?_
  refine go_call2 rfl e1 (Nat.le_of_ble_eq_true rfl) (qb_qv rfl (by decide) (by decide)) ?_
  refine go_ald_7_2 rfl ?_
  refine go_arg (j := 1) rfl rfl rfl rfl rfl rfl (by omega) hN ?_
  refine go_call2 rfl e2 (Nat.le_of_ble_eq_true rfl) (qb_qv rfl (by decide) (by decide)) ?_
  exact go_iceq rfl (fun _ => hR) (fun e => absurd rfl e)
set_option maxRecDepth 100000 in
theorem la_sentence {N : Nat} {xs : Nat → Int32} {c : Nat × Nat} {s : qb_M} (hZ : qZ s) {i : Nat} (hi : i + 6 ≤ N) (hN : N ≤ 384) (l5 l6 : Value) : ∃ u, qZ u ∧ ∀ R, qa_lm (qe 100) (qa_cd (qc_law N xs)) (1225, [.ref 40, .ref 64, .ref 192, .ref 212, .int (nI (i)), l5, l6], [], (qb_hp u, 149, c)) = R → qa_lm (qe 100) (qa_cd (qc_law N xs)) (1112, [.ref 40, .ref 64, .ref 192, .ref 212, .int (nI (i)), l5, l6], [], (qb_hp s, 149, c)) = R := by
  obtain ⟨v, t, u, e1, e2, hu⟩ := qT_sentence 56  s c hZ
  refine ⟨u, hu, fun R hR => ?_⟩
  refine go_ald_7_1 rfl ?_
  refine go_call1 rfl e1 (Nat.le_of_ble_eq_true rfl) (qb_qv rfl (by decide) (by decide)) ?_
  refine go_ald_7_2 rfl ?_
  refine go_call1 rfl e2 (Nat.le_of_ble_eq_true rfl) (qb_qv rfl (by decide) (by decide)) ?_
  exact go_iceq rfl (fun _ => hR) (fun e => absurd rfl e)
set_option maxRecDepth 100000 in
theorem la_said {N : Nat} {xs : Nat → Int32} {c : Nat × Nat} {s : qb_M} (hZ : qZ s) {i : Nat} (hi : i + 6 ≤ N) (hN : N ≤ 384) (l5 l6 : Value) : ∃ u, qZ u ∧ ∀ R, qa_lm (qe 100) (qa_cd (qc_law N xs)) (1225, [.ref 40, .ref 64, .ref 192, .ref 212, .int (nI (i)), l5, l6], [], (qb_hp u, 149, c)) = R → qa_lm (qe 100) (qa_cd (qc_law N xs)) (1125, [.ref 40, .ref 64, .ref 192, .ref 212, .int (nI (i)), l5, l6], [], (qb_hp s, 149, c)) = R := by
  obtain ⟨v, t, u, e1, e2, hu⟩ := qT_said 30 (xs (i + 1)) s c hZ
  refine ⟨u, hu, fun R hR => ?_⟩
  refine go_ald_7_1 rfl ?_
  refine go_arg (j := 1) rfl rfl rfl rfl rfl rfl (by omega) hN ?_
  refine go_call2 rfl e1 (Nat.le_of_ble_eq_true rfl) (qb_qv rfl (by decide) (by decide)) ?_
  refine go_ald_7_2 rfl ?_
  refine go_arg (j := 1) rfl rfl rfl rfl rfl rfl (by omega) hN ?_
  refine go_call2 rfl e2 (Nat.le_of_ble_eq_true rfl) (qb_qv rfl (by decide) (by decide)) ?_
  exact go_iceq rfl (fun _ => hR) (fun e => absurd rfl e)
set_option maxRecDepth 100000 in
theorem la_image {N : Nat} {xs : Nat → Int32} {c : Nat × Nat} {s : qb_M} (hZ : qZ s) {i : Nat} (hi : i + 6 ≤ N) (hN : N ≤ 384) (l5 l6 : Value) : ∃ u, qZ u ∧ ∀ R, qa_lm (qe 100) (qa_cd (qc_law N xs)) (1225, [.ref 40, .ref 64, .ref 192, .ref 212, .int (nI (i)), l5, l6], [], (qb_hp u, 149, c)) = R → qa_lm (qe 100) (qa_cd (qc_law N xs)) (1150, [.ref 40, .ref 64, .ref 192, .ref 212, .int (nI (i)), l5, l6], [], (qb_hp s, 149, c)) = R := by
  obtain ⟨v, t, u, e1, e2, hu⟩ := qT_image 80 (xs (i + 1)) s c hZ
  refine ⟨u, hu, fun R hR => ?_⟩
  refine go_ald_7_1 rfl ?_
  refine go_arg (j := 1) rfl rfl rfl rfl rfl rfl (by omega) hN ?_
  refine go_call2 rfl e1 (Nat.le_of_ble_eq_true rfl) (qb_qv rfl (by decide) (by decide)) ?_
  refine go_ald_7_2 rfl ?_
  refine go_arg (j := 1) rfl rfl rfl rfl rfl rfl (by omega) hN ?_
  refine go_call2 rfl e2 (Nat.le_of_ble_eq_true rfl) (qb_qv rfl (by decide) (by decide)) ?_
  exact go_iceq rfl (fun _ => hR) (fun e => absurd rfl e)
set_option maxRecDepth 100000 in
theorem la_restore {N : Nat} {xs : Nat → Int32} {c : Nat × Nat} {s : qb_M} (hZ : qZ s) {i : Nat} (hi : i + 6 ≤ N) (hN : N ≤ 384) (l5 l6 : Value) : ∃ u, qZ u ∧ ∀ R, qa_lm (qe 100) (qa_cd (qc_law N xs)) (1225, [.ref 40, .ref 64, .ref 192, .ref 212, .int (nI (i)), l5, l6], [], (qb_hp u, 149, c)) = R → qa_lm (qe 100) (qa_cd (qc_law N xs)) (1175, [.ref 40, .ref 64, .ref 192, .ref 212, .int (nI (i)), l5, l6], [], (qb_hp s, 149, c)) = R := by
  obtain ⟨v, t, u, e1, e2, hu⟩ := qT_restore 80 (xs (i + 1)) s c hZ
  refine ⟨u, hu, fun R hR => ?_⟩
  refine go_ald_7_1 rfl ?_
  refine go_arg (j := 1) rfl rfl rfl rfl rfl rfl (by omega) hN ?_
  refine go_call2 rfl e1 (Nat.le_of_ble_eq_true rfl) (qb_qv rfl (by decide) (by decide)) ?_
  refine go_ald_7_2 rfl ?_
  refine go_arg (j := 1) rfl rfl rfl rfl rfl rfl (by omega) hN ?_
  refine go_call2 rfl e2 (Nat.le_of_ble_eq_true rfl) (qb_qv rfl (by decide) (by decide)) ?_
  exact go_iceq rfl (fun _ => hR) (fun e => absurd rfl e)
set_option maxRecDepth 100000 in
theorem la_count {N : Nat} {xs : Nat → Int32} {c : Nat × Nat} {s : qb_M} (hZ : qZ s) {i : Nat} (hi : i + 6 ≤ N) (hN : N ≤ 384) (l5 l6 : Value) : ∃ u, qZ u ∧ ∀ R, qa_lm (qe 100) (qa_cd (qc_law N xs)) (1225, [.ref 40, .ref 64, .ref 192, .ref 212, .int (nI (i)), l5, l6], [], (qb_hp u, 149, c)) = R → qa_lm (qe 100) (qa_cd (qc_law N xs)) (1200, [.ref 40, .ref 64, .ref 192, .ref 212, .int (nI (i)), l5, l6], [], (qb_hp s, 149, c)) = R := by
  obtain ⟨v, t, u, e1, e2, hu⟩ := qT_count 80 (xs (i + 1)) s c hZ
  refine ⟨u, hu, fun R hR => ?_⟩
  refine go_ald_7_1 rfl ?_
  refine go_arg (j := 1) rfl rfl rfl rfl rfl rfl (by omega) hN ?_
  refine go_call2 rfl e1 (Nat.le_of_ble_eq_true rfl) (qb_qv rfl (by decide) (by decide)) ?_
  refine go_ald_7_2 rfl ?_
  refine go_arg (j := 1) rfl rfl rfl rfl rfl rfl (by omega) hN ?_
  refine go_call2 rfl e2 (Nat.le_of_ble_eq_true rfl) (qb_qv rfl (by decide) (by decide)) ?_
  exact go_iceq rfl (fun _ => hR) (fun e => absurd rfl e)
theorem sp_thrown (d : Nat) (s : qb_M) (c : Nat × Nat) : qe (d + 1) 161 [.ref 192] (qb_hp (s), 149, c) = some (some (.int (s.1 192 0)), (qb_hp (s), 149, c)) := by
  refine (en_161 d 192 _).trans ?_
  refine go_ald_1_0 rfl ?_
  refine go_geti rfl ⟨_, rfl, rfl, by decide, by decide⟩ ?_
  exact fin_i rfl rfl rfl
set_option maxRecDepth 100000 in
theorem la_lever {N : Nat} {xs : Nat → Int32} {c : Nat × Nat} {s : qb_M} (hZ : qZ s) {i : Nat} (hi : i + 6 ≤ N) (hN : N ≤ 384) (l5 l6 : Value) (h5 : l5 = .retAddr 0 ∨ ∃ v, l5 = .int v) (h6 : l6 = .retAddr 0 ∨ ∃ v, l6 = .int v) : ∃ u v5 v6 c', qZ u ∧ c'.1 ≤ c.1 + 1 ∧ c'.2 ≤ c.2 + 6 ∧ ∀ R, qa_lm (qe 100) (qa_cd (qc_law N xs)) (1225, [.ref 40, .ref 64, .ref 192, .ref 212, .int (nI (i)), .int v5, .int v6], [], (qb_hp u, 149, c')) = R → qa_lm (qe 100) (qa_cd (qc_law N xs)) (332, [.ref 40, .ref 64, .ref 192, .ref 212, .int (nI (i)), l5, l6], [], (qb_hp s, 149, c)) = R := by
  rcases q_lever 80 s c hZ (xs (i + 1)) (xs (i + 2)) with ⟨_, v, u, e1, e2, hu, h0, h212⟩ | ⟨hg, e0, ⟨b, e1, hb⟩, _⟩
  · refine ⟨u, 0, v, c, hu, Nat.le_succ _, Nat.le_add_right _ _, fun R hR => ?_⟩
    have ht := sp_thrown 99 u c
    rw [h0] at ht
    refine go_ald_7_1 rfl ?_
    refine go_arg (j := 1) rfl rfl rfl rfl rfl rfl (by omega) hN ?_
    refine go_arg (j := 2) rfl rfl rfl rfl rfl rfl (by omega) hN ?_
    refine go_ald_7_3 rfl ?_
    refine (qa_go (y := (349, [.ref 40, .ref 64, .ref 192, .ref 212, .int (nI i), l5, l6], [.int 0], (qb_hp (qb_ul s 212 0 v.toInt64), 149, c))) (op := qh_lev 349) rfl ?_).trans ?_
    · unfold qh_lev
      dsimp only
      rw [if_pos ⟨by decide, qb_qv rfl (by decide) (by decide)⟩, e1]
      dsimp only
      rw [show qa_arr (qb_hp s, 149, c) 212 1 = some (1, .inr (.inl (s.2.1 212))) from qb_arr (g := (149, c)) rfl (by decide) (show 212 < 64 + 149 by decide)]
      dsimp only
      rw [if_pos (by decide), qb_st_l rfl]
    · have tail : qa_lm (qe 100) (qa_cd (qc_law N xs)) (351, [.ref 40, .ref 64, .ref 192, .ref 212, .int (nI (i)), .int 0, l6], [], (qb_hp (qb_ul s 212 0 v.toInt64), 149, c)) = R := by
        refine go_ald_7_2 rfl ?_
        refine go_arg (j := 1) rfl rfl rfl rfl rfl rfl (by omega) hN ?_
        refine go_arg (j := 2) rfl rfl rfl rfl rfl rfl (by omega) hN ?_
        refine go_call3 rfl e2 (Nat.le_of_ble_eq_true rfl) (qb_qv rfl (by decide) (by decide)) ?_
        have t2 : qa_lm (qe 100) (qa_cd (qc_law N xs)) (369, [.ref 40, .ref 64, .ref 192, .ref 212, .int (nI (i)), .int 0, .int v], [], (qb_hp u, 149, c)) = R := by
          refine go_ald_7_2 rfl ?_
          refine go_call1 rfl ht (Nat.le_of_ble_eq_true rfl) (qb_qv rfl (by decide) (by decide)) ?_
          refine go_ild_7_5 rfl ?_
          refine go_iceq rfl (fun _ => ?_) (fun e => absurd rfl e)
          refine go_ild_7_5 rfl ?_
          refine go_ifne rfl (fun _ => ?_) (fun e => absurd rfl e)
          refine go_ald_7_3 rfl ?_
          refine go_c rfl ?_
          refine go_lald (j := 0) rfl ⟨rfl, by decide, by decide, by decide⟩ rfl (by decide) ?_
          rw [h212]
          refine go_ild_7_6 rfl ?_
          refine go_i2l rfl ?_
          refine go_lcmp rfl ?_
          refine go_ifeq rfl (fun _ => ?_) (fun e => absurd ((lg_cmp_eq _ _).mpr rfl) e)
          exact go_goto rfl hR
        rcases h6 with h6 | ⟨z, h6⟩ <;> subst h6 <;> exact go_ist_7_6 rfl rfl t2
      rcases h5 with h5 | ⟨z, h5⟩ <;> subst h5 <;> exact go_ist_7_5 rfl rfl tail
  · rcases q_lever 80 s (c.1 + 1, c.2 + 6) hZ (xs (i + 1)) (xs (i + 2)) with ⟨hg2, _⟩ | ⟨_, _, _, w, u, e2, hu, h1⟩
    · exact absurd hg2 hg
    · refine ⟨u, 1, w, (c.1 + 1, c.2 + 6), hu, Nat.le_refl _, Nat.le_refl _, fun R hR => ?_⟩
      have ht := sp_thrown 99 u (c.1 + 1, c.2 + 6)
      rw [h1] at ht
      refine go_ald_7_1 rfl ?_
      refine go_arg (j := 1) rfl rfl rfl rfl rfl rfl (by omega) hN ?_
      refine go_arg (j := 2) rfl rfl rfl rfl rfl rfl (by omega) hN ?_
      refine go_ald_7_3 rfl ?_
      refine (qa_go (y := (349, [.ref 40, .ref 64, .ref 192, .ref 212, .int (nI i), l5, l6], [.int 1], (qb_hp s, 149, (c.1 + 1, c.2 + 6)))) (op := qh_lev 349) rfl ?_).trans ?_
      · unfold qh_lev
        dsimp only
        rw [if_pos ⟨by decide, qb_qv rfl (by decide) (by decide)⟩, e0]
        dsimp only
        rw [e1]
        dsimp only
        rw [if_pos hb]
      · have tail : qa_lm (qe 100) (qa_cd (qc_law N xs)) (351, [.ref 40, .ref 64, .ref 192, .ref 212, .int (nI (i)), .int 1, l6], [], (qb_hp s, 149, (c.1 + 1, c.2 + 6))) = R := by
          refine go_ald_7_2 rfl ?_
          refine go_arg (j := 1) rfl rfl rfl rfl rfl rfl (by omega) hN ?_
          refine go_arg (j := 2) rfl rfl rfl rfl rfl rfl (by omega) hN ?_
          refine go_call3 rfl e2 (Nat.le_of_ble_eq_true rfl) (qb_qv rfl (by decide) (by decide)) ?_
          have t2 : qa_lm (qe 100) (qa_cd (qc_law N xs)) (369, [.ref 40, .ref 64, .ref 192, .ref 212, .int (nI (i)), .int 1, .int w], [], (qb_hp u, 149, (c.1 + 1, c.2 + 6))) = R := by
            refine go_ald_7_2 rfl ?_
            refine go_call1 rfl ht (Nat.le_of_ble_eq_true rfl) (qb_qv rfl (by decide) (by decide)) ?_
            refine go_ild_7_5 rfl ?_
            refine go_iceq rfl (fun _ => ?_) (fun e => absurd rfl e)
            refine go_ild_7_5 rfl ?_
            refine go_ifne rfl (fun e => absurd e (by decide)) (fun _ => ?_)
            exact go_goto rfl hR
          rcases h6 with h6 | ⟨z, h6⟩ <;> subst h6 <;> exact go_ist_7_6 rfl rfl t2
        rcases h5 with h5 | ⟨z, h5⟩ <;> subst h5 <;> exact go_ist_7_5 rfl rfl tail
def la_tb (j : Nat) : Nat := [208, 281, 306, 319, 332, 400, 437, 462, 499, 524, 585, 610, 635, 660, 685, 710, 723, 760, 773, 786, 799, 812, 825, 838, 851, 864, 889, 926, 951, 976, 1013, 1062, 1087, 1112, 1125, 1150, 1175, 1200].getD j 1225
set_option maxRecDepth 100000 in
theorem la_sw {N : Nat} {xs : Nat → Int32} {j : Nat} (hj : j < 64) {L : List Value} {h : qa_H} {R : Option (Option Value × qa_H)} (k : qa_lm (qe 100) (qa_cd (qc_law N xs)) (la_tb j, L, [], h) = R) : qa_lm (qe 100) (qa_cd (qc_law N xs)) (40, L, [.int (nI j)], h) = R := by
  have key : ∀ j, j < 64 → qa_sw [(0, 208), (1, 281), (2, 306), (3, 319), (4, 332), (5, 400), (6, 437), (7, 462), (8, 499), (9, 524), (10, 585), (11, 610), (12, 635), (13, 660), (14, 685), (15, 710), (16, 723), (17, 760), (18, 773), (19, 786), (20, 799), (21, 812), (22, 825), (23, 838), (24, 851), (25, 864), (26, 889), (27, 926), (28, 951), (29, 976), (30, 1013), (31, 1062), (32, 1087), (33, 1112), (34, 1125), (35, 1150), (36, 1175), (37, 1200)] 1225 (nI j) = la_tb j := by decide +kernel
  exact go_sw2 rfl (key j hj) k
set_option maxRecDepth 100000 in
theorem la_pl {N : Nat} {xs : Nat → Int32} {c : Nat × Nat} {s : qb_M} {i pc : Nat} {l5 l6 : Value} (h5 : l5 = .retAddr 0 ∨ ∃ v, l5 = .int v) (h6 : l6 = .retAddr 0 ∨ ∃ v, l6 = .int v) (h : ∃ u, qZ u ∧ ∀ R, qa_lm (qe 100) (qa_cd (qc_law N xs)) (1225, [.ref 40, .ref 64, .ref 192, .ref 212, .int (nI (i)), l5, l6], [], (qb_hp u, 149, c)) = R → qa_lm (qe 100) (qa_cd (qc_law N xs)) (pc, [.ref 40, .ref 64, .ref 192, .ref 212, .int (nI i), l5, l6], [], (qb_hp s, 149, c)) = R) : ∃ u m5 m6 c', qZ u ∧ (m5 = .retAddr 0 ∨ ∃ v, m5 = .int v) ∧ (m6 = .retAddr 0 ∨ ∃ v, m6 = .int v) ∧ c'.1 ≤ c.1 + 1 ∧ c'.2 ≤ c.2 + 6 ∧ ∀ R, qa_lm (qe 100) (qa_cd (qc_law N xs)) (1225, [.ref 40, .ref 64, .ref 192, .ref 212, .int (nI (i)), m5, m6], [], (qb_hp u, 149, c')) = R → qa_lm (qe 100) (qa_cd (qc_law N xs)) (pc, [.ref 40, .ref 64, .ref 192, .ref 212, .int (nI i), l5, l6], [], (qb_hp s, 149, c)) = R := by
  obtain ⟨u, hu, k⟩ := h
  exact ⟨u, l5, l6, c, hu, h5, h6, Nat.le_succ _, Nat.le_add_right _ _, k⟩
set_option maxRecDepth 100000 in
theorem la_pick {N : Nat} {xs : Nat → Int32} {c : Nat × Nat} {s : qb_M} (hZ : qZ s) {i : Nat} (hi : i + 6 ≤ N) (hN : N ≤ 384) (l5 l6 : Value) (h5 : l5 = .retAddr 0 ∨ ∃ v, l5 = .int v) (h6 : l6 = .retAddr 0 ∨ ∃ v, l6 = .int v) (j : Nat) (hj : j < 64) : ∃ u m5 m6 c', qZ u ∧ (m5 = .retAddr 0 ∨ ∃ v, m5 = .int v) ∧ (m6 = .retAddr 0 ∨ ∃ v, m6 = .int v) ∧ c'.1 ≤ c.1 + 1 ∧ c'.2 ≤ c.2 + 6 ∧ ∀ R, qa_lm (qe 100) (qa_cd (qc_law N xs)) (1225, [.ref 40, .ref 64, .ref 192, .ref 212, .int (nI (i)), m5, m6], [], (qb_hp u, 149, c')) = R → qa_lm (qe 100) (qa_cd (qc_law N xs)) (la_tb j, [.ref 40, .ref 64, .ref 192, .ref 212, .int (nI i), l5, l6], [], (qb_hp s, 149, c)) = R := by
  match j, hj with
  | 0, _ => exact la_pl h5 h6 (la_feed hZ hi hN l5 l6)
  | 1, _ => exact la_pl h5 h6 (la_end hZ hi hN l5 l6)
  | 2, _ => exact la_pl h5 h6 (la_board hZ hi hN l5 l6)
  | 3, _ => exact la_pl h5 h6 (la_fault hZ hi hN l5 l6)
  | 4, _ =>
    obtain ⟨u, v5, v6, c', hu, q1, q2, k⟩ := la_lever (xs := xs) (c := c) hZ hi hN l5 l6 h5 h6
    exact ⟨u, .int v5, .int v6, c', hu, Or.inr ⟨_, rfl⟩, Or.inr ⟨_, rfl⟩, q1, q2, k⟩
  | 5, _ => exact la_pl h5 h6 (la_line hZ hi hN l5 l6)
  | 6, _ => exact la_pl h5 h6 (la_out hZ hi hN l5 l6)
  | 7, _ => exact la_pl h5 h6 (la_way hZ hi hN l5 l6)
  | 8, _ => exact la_pl h5 h6 (la_now hZ hi hN l5 l6)
  | 9, _ => exact la_pl h5 h6 (la_call hZ hi hN l5 l6)
  | 10, _ => exact la_pl h5 h6 (la_hang hZ hi hN l5 l6)
  | 11, _ => exact la_pl h5 h6 (la_turn hZ hi hN l5 l6)
  | 12, _ => exact la_pl h5 h6 (la_jam hZ hi hN l5 l6)
  | 13, _ => exact la_pl h5 h6 (la_free hZ hi hN l5 l6)
  | 14, _ => exact la_pl h5 h6 (la_hours hZ hi hN l5 l6)
  | 15, _ => exact la_pl h5 h6 (la_undo hZ hi hN l5 l6)
  | 16, _ => exact la_pl h5 h6 (la_shifts hZ hi hN l5 l6)
  | 17, _ => exact la_pl h5 h6 (la_sets hZ hi hN l5 l6)
  | 18, _ => exact la_pl h5 h6 (la_setting hZ hi hN l5 l6)
  | 19, _ => exact la_pl h5 h6 (la_orders hZ hi hN l5 l6)
  | 20, _ => exact la_pl h5 h6 (la_deaf hZ hi hN l5 l6)
  | 21, _ => exact la_pl h5 h6 (la_deafAt hZ hi hN l5 l6)
  | 22, _ => exact la_pl h5 h6 (la_key hZ hi hN l5 l6)
  | 23, _ => exact la_pl h5 h6 (la_faulty hZ hi hN l5 l6)
  | 24, _ => exact la_pl h5 h6 (la_trial hZ hi hN l5 l6)
  | 25, _ => exact la_pl h5 h6 (la_hears hZ hi hN l5 l6)
  | 26, _ => exact la_pl h5 h6 (la_share hZ hi hN l5 l6)
  | 27, _ => exact la_pl h5 h6 (la_slip hZ hi hN l5 l6)
  | 28, _ => exact la_pl h5 h6 (la_byteAt hZ hi hN l5 l6)
  | 29, _ => exact la_pl h5 h6 (la_drawn hZ hi hN l5 l6)
  | 30, _ => exact la_pl h5 h6 (la_odds hZ hi hN l5 l6)
  | 31, _ => exact la_pl h5 h6 (la_book hZ hi hN l5 l6)
  | 32, _ => exact la_pl h5 h6 (la_told hZ hi hN l5 l6)
  | 33, _ => exact la_pl h5 h6 (la_sentence hZ hi hN l5 l6)
  | 34, _ => exact la_pl h5 h6 (la_said hZ hi hN l5 l6)
  | 35, _ => exact la_pl h5 h6 (la_image hZ hi hN l5 l6)
  | 36, _ => exact la_pl h5 h6 (la_restore hZ hi hN l5 l6)
  | 37, _ => exact la_pl h5 h6 (la_count hZ hi hN l5 l6)
  | j + 38, hj' => exact la_pl h5 h6 ⟨s, hZ, fun R hR => by
      have e : la_tb (j + 38) = 1225 := by
        unfold la_tb
        rw [List.getD_eq_getElem?_getD, List.getElem?_eq_none (by show 38 ≤ _; omega)]
        rfl
      rw [e]
      exact hR⟩
set_option maxRecDepth 100000 in
theorem la_once {N : Nat} {xs : Nat → Int32} {c : Nat × Nat} {s : qb_M} (hZ : qZ s) {i : Nat} (hi : i + 6 ≤ N) (hN : N ≤ 384) (l5 l6 : Value) (h5 : l5 = .retAddr 0 ∨ ∃ v, l5 = .int v) (h6 : l6 = .retAddr 0 ∨ ∃ v, l6 = .int v) : ∃ u m5 m6 c', qZ u ∧ (m5 = .retAddr 0 ∨ ∃ v, m5 = .int v) ∧ (m6 = .retAddr 0 ∨ ∃ v, m6 = .int v) ∧ c'.1 ≤ c.1 + 1 ∧ c'.2 ≤ c.2 + 6 ∧ ∀ R, qa_lm (qe 100) (qa_cd (qc_law N xs)) (1225, [.ref 40, .ref 64, .ref 192, .ref 212, .int (nI (i)), m5, m6], [], (qb_hp u, 149, c')) = R → qa_lm (qe 100) (qa_cd (qc_law N xs)) (33, [.ref 40, .ref 64, .ref 192, .ref 212, .int (nI i), l5, l6], [], (qb_hp s, 149, c)) = R := by
  obtain ⟨j, hj, hv⟩ := pk_andE (xs i) (m := 63) 6 (by decide)
  have hj : j < 64 := hj
  obtain ⟨u, m5, m6, c', hu, g5, g6, q1, q2, k⟩ := la_pick (xs := xs) (c := c) hZ hi hN l5 l6 h5 h6 j hj
  refine ⟨u, m5, m6, c', hu, g5, g6, q1, q2, fun R hR => ?_⟩
  refine go_ald_7_0 rfl ?_
  refine go_ild_7_4 rfl ?_
  refine go_xa rfl (by omega) hN ?_
  refine go_c rfl ?_
  refine go_iand rfl ?_
  rw [hv]
  exact la_sw hj (k R hR)
set_option maxRecDepth 100000 in
theorem la_cmp {N i : Nat} (hN : N ≤ 384) (hi : i ≤ 400) : nI N - 6 < nI i ↔ N < i + 6 := by
  by_cases h : 6 ≤ N
  · obtain ⟨m, rfl⟩ : ∃ m, N = 6 + m := ⟨N - 6, by omega⟩
    rw [show (6 : Int32) = nI 6 from rfl, nI_dif, nI_ltI (by omega) (by omega)]
    omega
  · have hh : N = 0 ∨ N = 1 ∨ N = 2 ∨ N = 3 ∨ N = 4 ∨ N = 5 := by omega
    have h0 : (0 : Int32) ≤ nI i := nI_pos' (by omega)
    have key : nI N - 6 < 0 := by rcases hh with e | e | e | e | e | e <;> subst e <;> decide
    exact ⟨fun _ => by omega, fun _ => Int32.lt_of_lt_of_le key h0⟩
set_option maxRecDepth 100000 in
theorem la_loop {N : Nat} {xs : Nat → Int32} (hN : N ≤ 384) : ∀ (m i : Nat) (c : Nat × Nat) (s : qb_M) (l5 l6 : Value), N ≤ i + 6 * m → i ≤ 390 → qZ s → (l5 = .retAddr 0 ∨ ∃ v, l5 = .int v) → (l6 = .retAddr 0 ∨ ∃ v, l6 = .int v) → ∃ hE : qa_H, qa_lm (qe 100) (qa_cd (qc_law N xs)) (23, [.ref 40, .ref 64, .ref 192, .ref 212, .int (nI (i)), l5, l6], [], (qb_hp s, 149, c)) = some (some (.int 1), hE) ∧ hE.2.2.1 ≤ c.1 + m ∧ hE.2.2.2 ≤ c.2 + 6 * m := by
  intro m
  induction m with
  | zero =>
    intro i c s l5 l6 h1 h2 hZ h5 h6
    refine ⟨(qb_hp s, 149, c), ?_, Nat.le_refl _, Nat.le_refl _⟩
    refine go_ild_7_4 rfl ?_
    refine go_ald_7_0 rfl ?_
    refine go_xl rfl ?_
    refine go_c rfl ?_
    refine go_isub rfl ?_
    refine go_icgt rfl (fun _ => ?_) (fun e => absurd ((la_cmp hN (by omega)).mpr (by omega)) e)
    refine go_c rfl ?_
    exact fin_i rfl rfl rfl
  | succ m ih =>
    intro i c s l5 l6 h1 h2 hZ h5 h6
    by_cases hi : i + 6 ≤ N
    · obtain ⟨u, m5, m6, c', hu, g5, g6, c1, c2, k⟩ := la_once (xs := xs) (c := c) hZ hi hN l5 l6 h5 h6
      obtain ⟨hE, e1, e2, e3⟩ := ih (i + 6) c' u m5 m6 (by omega) (by omega) hu g5 g6
      refine ⟨hE, ?_, by omega, by omega⟩
      refine go_ild_7_4 rfl ?_
      refine go_ald_7_0 rfl ?_
      refine go_xl rfl ?_
      refine go_c rfl ?_
      refine go_isub rfl ?_
      refine go_icgt rfl (fun e => absurd ((la_cmp hN (by omega)).mp e) (by omega)) (fun _ => ?_)
      refine k _ ?_
      rcases g5 with g5 | ⟨z, g5⟩ <;> subst g5 <;> exact go_inc_7_4 rfl rfl (go_goto rfl (by rw [show (6 : Int32) = nI 6 from rfl, nI_add]; exact e1))
    · refine ⟨(qb_hp s, 149, c), ?_, Nat.le_add_right _ _, Nat.le_add_right _ _⟩
      refine go_ild_7_4 rfl ?_
      refine go_ald_7_0 rfl ?_
      refine go_xl rfl ?_
      refine go_c rfl ?_
      refine go_isub rfl ?_
      refine go_icgt rfl (fun _ => ?_) (fun e => absurd ((la_cmp hN (by omega)).mpr (by omega)) e)
      refine go_c rfl ?_
      exact fin_i rfl rfl rfl
