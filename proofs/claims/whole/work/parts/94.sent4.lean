/-! a one with a number -/
def wC (A B A' B' : qb_M) (a ns n l : Nat) (b : Nat → Nat) (p' : Nat) : Prop := rC A' n l b p' ∧ rM B' n l b p' ∧ wL (qj A' B') ns a ∧ A'.1 150 4 = nI (a + 1) ∧ B'.1 192 41 = nI (a + 1) ∧ B'.1 192 44 = nI a ∧ qG (fun x k => x = 65 ∧ 5 ≤ k ∧ k ≤ 10 ∨ (x = 151 ∨ x = 152 ∨ x = 153) ∧ k = a ∨ x = 150 ∧ k = 4) A A' ∧ qG (fun x k => x = 192 ∧ (5 ≤ k ∧ k ≤ 9 ∨ k = 12 ∨ k = 13 ∨ k = 41 ∨ k = 44) ∨ x = 211 ∧ 4 * a ≤ k ∧ k ≤ 4 * a + 3) B B'
theorem sn_value (d d' g0 : Nat) (c : Nat × Nat) {A B : qb_M} {n l : Nat} {b : Nat → Nat} {p : Nat} (hC : rC A n l b p) (hM : rM B n l b p) {a ns w : Nat} (ha : a < 40) (h4 : A.1 150 4 = nI a) (h41 : B.1 192 41 = nI a) {sg x1 x4 : Int32} {X2 X3 : Nat → Int32} {hiN : Nat} (hh : hiN < 1000) (hw : w < 23) (hk : ∀ y, y ≤ hiN → wK ns w sg (nI y) x1 (X2 y) (X3 y) x4) : (tx_k n l b p = 3 ∧ ∃ v A' B1 B', (∀ u, qe (d + 5) 149 [.ref 150, .ref 65, .ref w, .int sg, .int (nI hiN)] (qb_hp (qj A u), 149, c) = some (some (.int (1)), (qb_hp (qj A' u), 149, c))) ∧ (∀ u, qe (d' + 4) 181 [.ref 192, .int 0, .int (nI hiN)] (qb_hp (qj u B), 149, c) = some (some (.int (1)), (qb_hp (qj u B1), 149, c))) ∧ B1.1 192 13 = nI v ∧ (∀ u, qe (g0 + 1) 284 [.ref 192, .int x1, .int (X2 v), .int (X3 v), .int x4] (qb_hp (qj u B1), 149, c) = some (some (.int (nI a)), (qb_hp (qj u B'), 149, c))) ∧ wC A B A' (qb_ui B' 192 44 (nI a)) a ns n l b (tx_e n l b p)) ∨ ∃ f : Nat, (∀ u, qe (d + 5) 149 [.ref 150, .ref 65, .ref w, .int sg, .int (nI hiN)] (qb_hp (qj A u), 149, c) = some (some (.int (0)), (qb_hp (qj (fC A f (tx_p n l b p)) u), 149, c))) ∧ ∀ u, qe (d' + 4) 181 [.ref 192, .int 0, .int (nI hiN)] (qb_hp (qj u B), 149, c) = some (some (.int (0)), (qb_hp (qj u (fM B f (tx_p n l b p))), 149, c)) := by
  have hidw : qa_id (.ref w) = some (some w) := if_pos hw
  rcases nb_both (d + 2) d' c hC hM 0 (nI hiN) with ⟨k3, hr, n1, B1, n2, n3, n4, n5⟩ | ⟨f, n1, n2⟩
  · have x9 := tx_rng (x := 0) (y := hiN) (tx_n9 k3) (by decide) hh hr
    obtain ⟨A1, e1, e2, e3⟩ := pc_step (d + 1) c hC
    obtain ⟨A', B', q1, q2, q3, q4, q5, q6, q7, q8, q9, q10⟩ := sn_leaf (d + 3) g0 c e2 n3 (ns := ns) ha ((e3.i (by omega)).trans h4) ((n5.i (by omega)).trans h41) (hk (tx_n n b p) x9.2)
    refine Or.inl ⟨k3, tx_n n b p, A', B1, B', fun u => ?_, n2, n4, q2, q3, q4, q5, q6, q7, q8, (e3.mo (fun x k h => by omega)).tr (q9.mo (fun x k h => by omega)), (n5.mo (fun x k h => by omega)).tr (q10.mo (fun x k h => by omega))⟩
    refine (en_149 (d + 4) 150 65 w sg (nI hiN) _).trans ?_
    refine go_ald_6_1 rfl ?_
    refine go_c rfl ?_
    refine go_ild_6_4 rfl ?_
    refine go_call3 rfl (n1 u) (Nat.le_of_ble_eq_true rfl) (qb_qv rfl (by decide) (by decide)) ?_
    refine go_ifne rfl (fun e => ?_) (fun e => ?_)
    · exact absurd e (by decide)
    · refine go_ald_6_1 rfl ?_
      refine go_geti rfl ⟨_, rfl, rfl, by decide, by decide⟩ ?_
      rw [show (qj A u).1 65 8 = nI (tx_n n b p) from hC.2.2.2.2.2.2.2 k3]
      refine go_ist_6_5 rfl rfl ?_
      refine go_ald_6_1 rfl ?_
      refine go_call1 rfl (e1 u) (Nat.le_of_ble_eq_true rfl) (qb_qv rfl (by decide) (by decide)) ?_
      refine go_ald_6_0 rfl ?_
      refine go_ald_6_2 rfl ?_
      refine go_ild_6_3 rfl ?_
      refine go_ild_6_5 rfl ?_
      refine go_call4 rfl (q1 u) (Nat.le_of_ble_eq_true rfl) (qb_qv rfl (by decide) (by decide)) ?_
      exact fin_i rfl rfl rfl
  · refine Or.inr ⟨f, fun u => ?_, n2⟩
    refine (en_149 (d + 4) 150 65 w sg (nI hiN) _).trans ?_
    refine go_ald_6_1 rfl ?_
    refine go_c rfl ?_
    refine go_ild_6_4 rfl ?_
    refine go_call3 rfl (n1 u) (Nat.le_of_ble_eq_true rfl) (qb_qv rfl (by decide) (by decide)) ?_
    refine go_ifne rfl (fun e => ?_) (fun e => ?_)
    · refine go_c rfl ?_
      exact fin_i rfl rfl rfl
    · exact absurd rfl e
