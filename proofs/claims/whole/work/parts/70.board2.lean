/-! a board's lines: vow, switches, sisters -/
theorem bG_of {x j : Nat} (h : x < 192 ∧ (bF x j ∨ x = 65 ∧ (j = 2 ∨ j = 3)) ∨ ¬ x < 192 ∧ (bF x j ∨ x = 192 ∧ (j = 10 ∨ j = 11))) : bG x j := by
  unfold bG
  rcases h with ⟨_, h | h⟩ | ⟨_, h | h⟩
  · exact Or.inl h
  · exact Or.inr (Or.inl h)
  · exact Or.inl h
  · exact Or.inr (Or.inr h)
theorem bF_of {x j : Nat} (h : x < 192 ∧ bF x j ∨ ¬ x < 192 ∧ bF x j) : bF x j := h.elim (fun z => z.2) (fun z => z.2)
theorem bF_C {x k : Nat} (h : x = 65 ∧ 5 ≤ k ∧ k ≤ 10) : bF x k := Or.inl h
theorem bF_M {x k : Nat} (h : x = 192 ∧ (5 ≤ k ∧ k ≤ 9 ∨ k = 12)) : bF x k := by unfold bF; omega
theorem bF_N {x k : Nat} (h : x = 192 ∧ (5 ≤ k ∧ k ≤ 9 ∨ k = 12 ∨ k = 13)) : bF x k := by unfold bF; omega
theorem bo_failL {d k pc : Nat} {As : List Value} {o : qa_O} {cd : qa_Cd} {L : List Value} {c : Nat × Nat} {M A B : qb_M} {n l : Nat} {b : Nat → Nat} {p pl f : Nat} {G : qb_M → Prop} {P Q P1 Q1 : Nat → Nat → Prop} (h1 : ∀ u, qe d k As (qb_hp (qj M u), 149, c) = some (some (.int (0)), (qb_hp (qj (fC A f pl) u), 149, c))) (h2 : ∀ u, qa_lm o cd (pc, L, [], (qb_hp (qj u M), 149, c)) = some (some (.int (0)), (qb_hp (qj u (fM B f pl)), 149, c))) (hpl : pl ≤ 940) (gA : qG P1 M A) (gB : qG Q1 M B) (hQ : ∀ x j, (x < 192 ∧ (P1 x j ∨ x = 65 ∧ (j = 2 ∨ j = 3)) ∨ ¬ x < 192 ∧ (Q1 x j ∨ x = 192 ∧ (j = 10 ∨ j = 11))) → Q x j) : ∃ M' r, (∀ u, qe d k As (qb_hp (qj M u), 149, c) = some (some (.int (r)), (qb_hp (qj M' u), 149, c))) ∧ (∀ u, qa_lm o cd (pc, L, [], (qb_hp (qj u M), 149, c)) = some (some (.int (r)), (qb_hp (qj u M'), 149, c))) ∧ rO P Q n l b p M M' r G := by
  refine ⟨qj (fC A f pl) (fM B f pl), 0, fun u => by rw [qj_j]; exact h1 u, fun u => by rw [qj_J]; exact h2 u, Or.inr ⟨rfl, fR_of hpl, ?_⟩⟩
  have gA2 : qG (fun x j => P1 x j ∨ x = 65 ∧ (j = 2 ∨ j = 3)) M (fC A f pl) := (gA.mo (fun x j h => Or.inl h)).tr (fC_G.mo (fun x j h => Or.inr h))
  have gB2 : qG (fun x j => Q1 x j ∨ x = 192 ∧ (j = 10 ∨ j = 11)) M (fM B f pl) := (gB.mo (fun x j h => Or.inl h)).tr (fM_G.mo (fun x j h => Or.inr h))
  exact (qj_G gA2 gB2).mo hQ
theorem bo_goodL {d k pc : Nat} {As : List Value} {o : qa_O} {cd : qa_Cd} {L : List Value} {c : Nat × Nat} {M A B : qb_M} {n l : Nat} {b : Nat → Nat} {p p' : Nat} {G : qb_M → Prop} {P Q P1 Q1 : Nat → Nat → Prop} (h1 : ∀ u, qe d k As (qb_hp (qj M u), 149, c) = some (some (.int (1)), (qb_hp (qj A u), 149, c))) (h2 : ∀ u, qa_lm o cd (pc, L, [], (qb_hp (qj u M), 149, c)) = some (some (.int (1)), (qb_hp (qj u B), 149, c))) (hp : p < p') (hA : rC A n l b p') (hB : rM B n l b p') (hG : G (qj A B)) (gA : qG P1 M A) (gB : qG Q1 M B) (hP : ∀ x j, (x < 192 ∧ P1 x j ∨ ¬ x < 192 ∧ Q1 x j) → P x j) : ∃ M' r, (∀ u, qe d k As (qb_hp (qj M u), 149, c) = some (some (.int (r)), (qb_hp (qj M' u), 149, c))) ∧ (∀ u, qa_lm o cd (pc, L, [], (qb_hp (qj u M), 149, c)) = some (some (.int (r)), (qb_hp (qj u M'), 149, c))) ∧ rO P Q n l b p M M' r G := ⟨qj A B, 1, fun u => by rw [qj_j]; exact h1 u, fun u => by rw [qj_J]; exact h2 u, Or.inl ⟨rfl, ⟨p', hp, rC_j hA, rM_j hB⟩, hG, (qj_G gA gB).mo hP⟩⟩
theorem bo_vow (d d' : Nat) (c : Nat × Nat) {M : qb_M} {n l : Nat} {b : Nat → Nat} {p : Nat} (hC : rC M n l b p) (hM : rM M n l b p) (hk : tx_k n l b p = 2) {nw nm ns V F0 : Nat} {lo hi se : Nat → Nat} {wt vt : Bool} (hB : bD M nw nm ns V F0 lo hi se wt vt) : ∃ M' r, (∀ u, qe (d + 5) 40 [.ref 139, .ref 65] (qb_hp (qj M u), 149, c) = some (some (.int (r)), (qb_hp (qj M' u), 149, c))) ∧ (∀ u, qa_lm (qe (d' + 5)) (qa_cd qc_174) (47, [.ref 192], [], (qb_hp (qj u M), 149, c)) = some (some (.int (r)), (qb_hp (qj u M'), 149, c))) ∧ rO bF bG n l b p M M' r bE := by
  obtain ⟨hZ, ⟨w1, w2⟩, v1, v2⟩ := id hB
  obtain ⟨f1, f2⟩ := pm_fresh (d' + 1) c hM hk 1 (by decide) (t := vt) v2
  cases hvt : vt with
  | true =>
    refine bo_failL (A := M) (B := M) (f := 3) (pl := tx_p n l b p) (P1 := bF) (Q1 := bF) (fun u => ?_) (fun u => ?_) (tx_p9 hC) qG.rf qG.rf (fun x j h => bG_of h)
    · refine (en_40 (d + 4) 139 65 _).trans ?_
      refine go_ald_2_0 rfl ?_
      refine go_geti rfl ⟨_, rfl, rfl, by decide, by decide⟩ ?_
      rw [show (qj M u).1 139 12 = qB (vt = true) from v1, hvt]
      refine go_ifeq rfl (fun e => ?_) (fun e => ?_)
      · exact absurd e (by decide)
      · refine go_ald_2_1 rfl ?_
        refine go_c rfl ?_
        refine go_call2 rfl (pc_fail (d + 3) c hC 3 u) (Nat.le_of_ble_eq_true rfl) (qb_qv rfl (by decide) (by decide)) ?_
        exact fin_i rfl rfl rfl
    · refine go_ald_1_0 rfl ?_
      refine go_c rfl ?_
      refine go_call2 rfl (f1 hvt u) (Nat.le_of_ble_eq_true rfl) (qb_qv rfl (by decide) (by decide)) ?_
      refine go_ifeq rfl (fun e2 => ?_) (fun e2 => ?_)
      · refine go_c rfl ?_
        refine go_goto rfl ?_
        exact fin_i rfl rfl rfl
      · exact absurd rfl e2
  | false =>
    obtain ⟨A1, a1, a2, a3⟩ := pc_step (d + 1) c hC
    obtain ⟨B1, b1, b2, b3, b4⟩ := f2 hvt
    have hpe := tx_e_lt hC.1 (by omega) (by omega : tx_k n l b p ≠ 1)
    have enC : ∀ u R, qa_lm (qe (d + 4)) (qa_cd qc_40) (17, [.ref 139, .ref 65], [], (qb_hp (qj A1 u), 149, c)) = R → qe (d + 5) 40 [.ref 139, .ref 65] (qb_hp (qj M u), 149, c) = R := fun u R hR => by
      refine (en_40 (d + 4) 139 65 _).trans ?_
      refine go_ald_2_0 rfl ?_
      refine go_geti rfl ⟨_, rfl, rfl, by decide, by decide⟩ ?_
      rw [show (qj M u).1 139 12 = qB (vt = true) from v1, hvt]
      refine go_ifeq rfl (fun e => ?_) (fun e => ?_)
      · refine go_ald_2_1 rfl ?_
        refine go_call1 rfl (a1 u) (Nat.le_of_ble_eq_true rfl) (qb_qv rfl (by decide) (by decide)) ?_
        exact hR
      · exact absurd rfl e
    have enM : ∀ u R, qa_lm (qe (d' + 5)) (qa_cd qc_174) (55, [.ref 192], [], (qb_hp (qj u B1), 149, c)) = R → qa_lm (qe (d' + 5)) (qa_cd qc_174) (47, [.ref 192], [], (qb_hp (qj u M), 149, c)) = R := fun u R hR => by
      refine go_ald_1_0 rfl ?_
      refine go_c rfl ?_
      refine go_call2 rfl (b1 u) (Nat.le_of_ble_eq_true rfl) (qb_qv rfl (by decide) (by decide)) ?_
      refine go_ifeq rfl (fun e2 => ?_) (fun e2 => ?_)
      · exact absurd e2 (by decide)
      · exact hR
    rcases nb_both (d + 2) (d' + 1) c a2 b2 0 9 with ⟨k3, hr, n1, B2, n2, n3, n4, n5⟩ | ⟨f, n1, n2⟩
    · obtain ⟨A3, e1, e2, e3⟩ := pc_step (d + 1) c (a2.mv (P := fun x k => x = 139 ∧ (k = 8 ∨ k = 12)) (N := qb_ui (qb_ui A1 139 8 (nI (tx_n n b (tx_e n l b p)))) 139 12 1) ((qG.rf.ui (by omega)).ui (by omega)) (fun x k h => by omega))
      have h8 : A1.1 65 8 = nI (tx_n n b (tx_e n l b p)) := a2.2.2.2.2.2.2.2 k3
      have hpe2 := tx_e_lt a2.1 (by omega) (by omega : tx_k n l b (tx_e n l b p) ≠ 1)
      obtain ⟨v, hv⟩ : ∃ v, v = tx_n n b (tx_e n l b p) := ⟨_, rfl⟩
      rw [← hv] at hr h8 n4 e1 e3
      have hv9 : 0 ≤ v ∧ v ≤ 9 := tx_rng (by rw [hv]; exact tx_n9 k3) (by decide) (by decide) hr
      have gA : qG (fun x k => x = 65 ∧ 5 ≤ k ∧ k ≤ 10 ∨ x = 139 ∧ (k = 8 ∨ k = 12)) M A3 := ((a3.mo (fun x k h => Or.inl h)).tr ((qG.rf.ui (by omega)).ui (by omega))).tr (e3.mo (fun x k h => Or.inl h))
      have gB : qG (fun x k => x = 192 ∧ (5 ≤ k ∧ k ≤ 9 ∨ k = 12 ∨ k = 13) ∨ x = 203 ∧ k = 1 ∨ x = 195 ∧ k = 3) M (qb_ui B2 195 3 (nI v)) := ((b4.mo (fun x k h => by omega)).tr (n5.mo (fun x k h => by omega))).ui (by omega)
      refine bo_goodL (A := A3) (B := qb_ui B2 195 3 (nI v)) (p' := tx_e n l b (tx_e n l b p)) (P1 := fun x k => x = 65 ∧ 5 ≤ k ∧ k ≤ 10 ∨ x = 139 ∧ (k = 8 ∨ k = 12)) (Q1 := fun x k => x = 192 ∧ (5 ≤ k ∧ k ≤ 9 ∨ k = 12 ∨ k = 13) ∨ x = 203 ∧ k = 1 ∨ x = 195 ∧ k = 3) (fun u => enC u _ ?_) (fun u => enM u _ ?_) (by omega) e2 (n3.mv (P := fun x k => x = 195) (qG.rf.ui rfl) (fun x k h => by omega)) ?_ gA gB (fun x j h => by unfold bF; omega)
      · refine go_ald_2_1 rfl ?_
        refine go_c rfl ?_
        refine go_c rfl ?_
        refine go_call3 rfl (n1 u) (Nat.le_of_ble_eq_true rfl) (qb_qv rfl (by decide) (by decide)) ?_
        refine go_ifne rfl (fun e => ?_) (fun e => ?_)
        · exact absurd e (by decide)
        · refine go_ald_2_0 rfl ?_
          refine go_ald_2_1 rfl ?_
          refine go_geti rfl ⟨_, rfl, rfl, by decide, by decide⟩ ?_
          rw [show (qj A1 u).1 65 8 = nI v from h8]
          refine go_puti rfl ⟨_, rfl, rfl, by decide, by decide⟩ rfl rfl ?_
          rw [qj_ui (by decide)]
          refine go_ald_2_0 rfl ?_
          refine go_c rfl ?_
          refine go_puti rfl ⟨_, rfl, rfl, by decide, by decide⟩ rfl rfl ?_
          rw [qj_ui (by decide)]
          refine go_ald_2_1 rfl ?_
          refine go_call1 rfl (e1 u) (Nat.le_of_ble_eq_true rfl) (qb_qv rfl (by decide) (by decide)) ?_
          refine go_c rfl ?_
          exact fin_i rfl rfl rfl
      · have hpt := pm_put1 (d' + 4) (qj u B2) c 3 (by decide)
        rw [show (qj u B2).1 192 13 = nI v from n4, qj_UI (by decide)] at hpt
        refine go_ald_1_0 rfl ?_
        refine go_c rfl ?_
        refine go_ald_1_0 rfl ?_
        refine go_c rfl ?_
        refine go_c rfl ?_
        refine go_call3 rfl (n2 u) (Nat.le_of_ble_eq_true rfl) (qb_qv rfl (by decide) (by decide)) ?_
        refine go_call3 rfl (hpt) (Nat.le_of_ble_eq_true rfl) (qb_qv rfl (by decide) (by decide)) ?_
        refine go_ifeq rfl (fun e => ?_) (fun e => ?_)
        · exact absurd e (by decide)
        · refine go_c rfl ?_
          refine go_goto rfl ?_
          exact fin_i rfl rfl rfl
      · have gJ := qj_G gA gB
        obtain ⟨z0, ⟨z1, z2, z3, z4, z5⟩, ⟨y1, y2, y3, y4, y5⟩, z6, z7⟩ := hZ
        refine ⟨nw, nm, ns, v, F0, lo, hi, se, wt, true, ⟨⟨z0.1, z0.2.1, z0.2.2.1, z0.2.2.2.1, hv9.2, z0.2.2.2.2.2⟩, ⟨(gJ.i (by omega)).trans z1, (gJ.i (by omega)).trans z2, (gJ.i (by omega)).trans z3, ?_, (gJ.i (by omega)).trans z5⟩, ⟨(gJ.i (by omega)).trans y1, (gJ.i (by omega)).trans y2, (gJ.i (by omega)).trans y3, (show (qb_ui B2 195 3 (nI v)).1 195 3 = nI v from qb_ui_1s), (gJ.i (by omega)).trans y5⟩, fun k hk => ?_, fun k hk => ?_⟩, ⟨(gJ.i (by omega)).trans w1, (gJ.i (by omega)).trans w2⟩, ?_, ?_⟩
        · show A3.1 139 8 = nI v
          exact (e3.i (by omega)).trans ((qb_ui_1n (Or.inr (by decide))).trans qb_ui_1s)
        · rw [gJ.i (by omega), gJ.i (by omega), gJ.i (by omega), gJ.i (by omega), gJ.l (by omega), gJ.l (by omega)]
          exact z6 k hk
        · rw [gJ.i (by omega), gJ.i (by omega), gJ.l (by omega), gJ.l (by omega)]
          exact z7 k hk
        · show A3.1 139 12 = 1
          exact (e3.i (by omega)).trans qb_ui_1s
        · show (qb_ui B2 195 3 (nI v)).1 203 1 = 1
          exact (qb_ui_1n (Or.inl (by decide))).trans ((n5.i (by omega)).trans b3)
    · refine bo_failL (A := A1) (B := B1) (f := f) (pl := tx_p n l b (tx_e n l b p)) (P1 := fun x k => x = 65 ∧ 5 ≤ k ∧ k ≤ 10) (Q1 := fun x j => x = 192 ∧ (5 ≤ j ∧ j ≤ 9 ∨ j = 12) ∨ x = 203 ∧ j = 1) (fun u => enC u _ ?_) (fun u => enM u _ ?_) (tx_p9 a2) a3 b4 (fun x j h => by unfold bG bF; omega)
      · refine go_ald_2_1 rfl ?_
        refine go_c rfl ?_
        refine go_c rfl ?_
        refine go_call3 rfl (n1 u) (Nat.le_of_ble_eq_true rfl) (qb_qv rfl (by decide) (by decide)) ?_
        refine go_ifne rfl (fun e => ?_) (fun e => ?_)
        · refine go_c rfl ?_
          exact fin_i rfl rfl rfl
        · exact absurd rfl e
      · refine go_ald_1_0 rfl ?_
        refine go_c rfl ?_
        refine go_ald_1_0 rfl ?_
        refine go_c rfl ?_
        refine go_c rfl ?_
        refine go_call3 rfl (n2 u) (Nat.le_of_ble_eq_true rfl) (qb_qv rfl (by decide) (by decide)) ?_
        refine go_call3 rfl (pm_put0 (d' + 4) _ c 3) (Nat.le_of_ble_eq_true rfl) (qb_qv rfl (by decide) (by decide)) ?_
        refine go_ifeq rfl (fun e => ?_) (fun e => ?_)
        · refine go_c rfl ?_
          refine go_goto rfl ?_
          exact fin_i rfl rfl rfl
        · exact absurd rfl e
/-- a new name, read by both -/
def nR (A B : qb_M) (nm ns : Nat) : Prop := (A.1 139 6 = nI nm ∧ A.1 139 7 = nI ns) ∧ (B.1 195 1 = nI nm ∧ B.1 195 2 = nI ns) ∧ (nm ≤ 10 ∧ ns ≤ 5) ∧ (∀ k, k < nm → qn (A.2.1 142 k) (B.2.1 200 k)) ∧ ∀ k, k < ns → qn (A.2.1 143 k) (B.2.1 200 (10 + k))
theorem sp_switchNamed (d : Nat) (s : qb_M) (c : Nat × Nat) {a nm : Nat} (h : qP_sh a) (h6 : s.1 a 6 = nI nm) (hn : nm ≤ 10) (x : Int64) : qe (d + 2) 35 [.ref a, .long x] (qb_hp (s), 149, c) = some (some (.int (tx_ix (s.2.1 (a + 3)) nm x)), (qb_hp (s), 149, c)) := by
  refine (en_35 (d + 1) a x _).trans ?_
  refine go_ald_3_0 rfl ?_
  refine go_getr rfl (qP_f h rfl) ?_
  refine go_ald_3_0 rfl ?_
  refine go_geti rfl (qP_f h rfl) ?_
  rw [h6]
  refine go_lld_3_1 rfl ?_
  refine go_call3 rfl (sp_indexOf d s c h.2.1.2.2.1 hn x) (Nat.le_of_ble_eq_true rfl) rfl ?_
  exact fin_i rfl rfl rfl
theorem sp_sisterNamed (d : Nat) (s : qb_M) (c : Nat × Nat) {a ns : Nat} (h : qP_sh a) (h7 : s.1 a 7 = nI ns) (hn : ns ≤ 5) (x : Int64) : qe (d + 2) 37 [.ref a, .long x] (qb_hp (s), 149, c) = some (some (.int (tx_ix (s.2.1 (a + 4)) ns x)), (qb_hp (s), 149, c)) := by
  refine (en_37 (d + 1) a x _).trans ?_
  refine go_ald_3_0 rfl ?_
  refine go_getr rfl (qP_f h rfl) ?_
  refine go_ald_3_0 rfl ?_
  refine go_geti rfl (qP_f h rfl) ?_
  rw [h7]
  refine go_lld_3_1 rfl ?_
  refine go_call3 rfl (sp_indexOf d s c h.2.1.2.2.2.1 hn x) (Nat.le_of_ble_eq_true rfl) rfl ?_
  exact fin_i rfl rfl rfl
theorem nn_both (d d' : Nat) (c : Nat × Nat) {A B : qb_M} {n l : Nat} {b : Nat → Nat} {p : Nat} (hC : rC A n l b p) (hM : rM B n l b p) {nm ns : Nat} (hN : nR A B nm ns) (j : Nat) (hj : j < 15) : (tx_k n l b p = 2 ∧ (∀ u, qe (d + 4) 33 [.ref 139, .ref 65] (qb_hp (qj A u), 149, c) = some (some (.int (1)), (qb_hp (qj A u), 149, c))) ∧ ∃ B', (∀ u, qe (d' + 5) 186 [.ref 192, .int (nI j)] (qb_hp (qj u B), 149, c) = some (some (.int (1)), (qb_hp (qj u B'), 149, c))) ∧ rM B' n l b (tx_e n l b p) ∧ B'.2.1 200 j = lN (qn_27 (tx_l n b p)) ∧ qG (fun x k => x = 192 ∧ (5 ≤ k ∧ k ≤ 9 ∨ k = 12) ∨ x = 200 ∧ k = j) B B') ∨ ∃ f : Nat, (∀ u, qe (d + 4) 33 [.ref 139, .ref 65] (qb_hp (qj A u), 149, c) = some (some (.int (0)), (qb_hp (qj (fC A f (tx_p n l b p)) u), 149, c))) ∧ ∀ u, qe (d' + 5) 186 [.ref 192, .int (nI j)] (qb_hp (qj u B), 149, c) = some (some (.int (0)), (qb_hp (qj u (fM B f (tx_p n l b p))), 149, c)) := by
  obtain ⟨⟨a6, a7⟩, ⟨b1, b2⟩, ⟨n1, n2⟩, hm, hs⟩ := hN
  have hP : qP_sh 139 := ⟨rfl, ⟨⟨rfl, by decide, by decide, by decide⟩, ⟨rfl, by decide, by decide, by decide⟩, ⟨rfl, by decide, by decide, by decide⟩, ⟨rfl, by decide, by decide, by decide⟩, ⟨rfl, by decide, by decide, by decide⟩⟩, by decide, by decide⟩
  by_cases hnm : tx_k n l b p = 2 ∧ tx_wd (tx_l n b p) = none
  · have hok := tx_l_ok hC.1 hnm.1
    have hL : ∀ u, (qj A u).2.1 65 9 = lN (qn_32 (tx_l n b p)) := fun u => (hC.2.2.2.2.2.1 hnm.1).1
    have hW : ∀ u, (qj u B).2.1 192 12 = lN (qn_27 (tx_l n b p)) := fun u => hM.2.2.2.2.2.2.1 hnm.1
    have i1 : tx_ix (A.2.1 142) nm (lN (qn_32 (tx_l n b p))) = tx_ix (fun k => B.2.1 200 (0 + k)) nm (lN (qn_27 (tx_l n b p))) := tx_ix_cong (fun k hk => by rw [Nat.zero_add]; exact qn_same (hm k hk) hok)
    have i2 : tx_ix (A.2.1 143) ns (lN (qn_32 (tx_l n b p))) = tx_ix (fun k => B.2.1 200 (10 + k)) ns (lN (qn_27 (tx_l n b p))) := tx_ix_cong (fun k hk => qn_same (hs k hk) hok)
    have cS : ∀ u, qe (d + 3) 35 [.ref 139, .long (lN (qn_32 (tx_l n b p)))] (qb_hp (qj A u), 149, c) = some (some (.int (tx_ix (A.2.1 142) nm (lN (qn_32 (tx_l n b p))))), (qb_hp (qj A u), 149, c)) := fun u => sp_switchNamed (d + 1) (qj A u) c hP (show (qj A u).1 139 6 = nI nm from a6) n1 _
    have cT : ∀ u, qe (d + 3) 37 [.ref 139, .long (lN (qn_32 (tx_l n b p)))] (qb_hp (qj A u), 149, c) = some (some (.int (tx_ix (A.2.1 143) ns (lN (qn_32 (tx_l n b p))))), (qb_hp (qj A u), 149, c)) := fun u => sp_sisterNamed (d + 1) (qj A u) c hP (show (qj A u).1 139 7 = nI ns from a7) n2 _
    have mS : ∀ u, qe (d' + 4) 188 [.ref 200, .int (nI 0), .int (nI nm), .long (lN (qn_27 (tx_l n b p)))] (qb_hp (qj u B), 149, c) = some (some (.int (tx_ix (fun k => B.2.1 200 (0 + k)) nm (lN (qn_27 (tx_l n b p))))), (qb_hp (qj u B), 149, c)) := fun u => sp_findIn (d' + 3) (qj u B) c (a := 200) (N := 15) ⟨rfl, by decide, by decide, by decide⟩ (by omega) _
    have mT : ∀ u, qe (d' + 4) 188 [.ref 200, .int (nI 10), .int (nI ns), .long (lN (qn_27 (tx_l n b p)))] (qb_hp (qj u B), 149, c) = some (some (.int (tx_ix (fun k => B.2.1 200 (10 + k)) ns (lN (qn_27 (tx_l n b p))))), (qb_hp (qj u B), 149, c)) := fun u => sp_findIn (d' + 3) (qj u B) c (a := 200) (N := 15) ⟨rfl, by decide, by decide, by decide⟩ (by omega) _
    rw [← i1] at mS
    rw [← i2] at mT
    generalize tx_ix (A.2.1 142) nm (lN (qn_32 (tx_l n b p))) = I1 at cS mS
    generalize tx_ix (A.2.1 143) ns (lN (qn_32 (tx_l n b p))) = I2 at cT mT
    have enC : ∀ u R, qa_lm (qe (d + 3)) (qa_cd qc_33) (13, [.ref 139, .ref 65, .retAddr 0], [], (qb_hp (qj A u), 149, c)) = R → qe (d + 4) 33 [.ref 139, .ref 65] (qb_hp (qj A u), 149, c) = R := fun u R hR => by
      refine (en_33 (d + 3) 139 65 _).trans ?_
      refine go_ald_3_1 rfl ?_
      refine go_call1 rfl (pc_isAtName (d + 2) c hC u) (Nat.le_of_ble_eq_true rfl) (qb_qv rfl (by decide) (by decide)) ?_
      refine go_ifne rfl (fun e => ?_) (fun e => ?_)
      · exact absurd hnm (qB_0.mp e)
      · exact hR
    have enM : ∀ u R, qa_lm (qe (d' + 4)) (qa_cd qc_186) (13, [.ref 192, .int (nI j)], [], (qb_hp (qj u B), 149, c)) = R → qe (d' + 5) 186 [.ref 192, .int (nI j)] (qb_hp (qj u B), 149, c) = R := fun u R hR => by
      refine (en_186 (d' + 4) 192 (nI j) _).trans ?_
      refine go_ald_2_0 rfl ?_
      refine go_call1 rfl (pm_isName (d' + 1) c hM u) (Nat.le_of_ble_eq_true rfl) (qb_qv rfl (by decide) (by decide)) ?_
      refine go_ifne rfl (fun e => ?_) (fun e => ?_)
      · exact absurd hnm (qB_0.mp e)
      · exact hR
    by_cases hnew : I1 = -1 ∧ I2 = -1
    · obtain ⟨B', m1, m2, m3⟩ := pm_go (d' + 1) c (hM.mv (P := fun x k => x = 200 ∧ k = j) (N := qb_ul B 200 j (lN (qn_27 (tx_l n b p)))) (qG.rf.ul ⟨rfl, rfl⟩) (fun x k h => by omega))
      refine Or.inl ⟨hnm.1, fun u => enC u _ ?_, B', fun u => enM u _ ?_, m2, (m3.l (by omega)).trans qb_ul_1s, (qG.rf.ul (by omega)).tr (m3.mo (fun x k h => by omega))⟩
      · refine go_ald_3_0 rfl ?_
        refine go_ald_3_1 rfl ?_
        refine go_getl rfl ⟨_, rfl, rfl, by decide, by decide⟩ ?_
        rw [hL]
        refine go_call2 rfl (cS u) (Nat.le_of_ble_eq_true rfl) (qb_qv rfl (by decide) (by decide)) ?_
        refine go_c rfl ?_
        refine go_icne rfl (fun e => ?_) (fun e => ?_)
        · refine go_ald_3_0 rfl ?_
          refine go_ald_3_1 rfl ?_
          refine go_getl rfl ⟨_, rfl, rfl, by decide, by decide⟩ ?_
          rw [hL]
          refine go_call2 rfl (cT u) (Nat.le_of_ble_eq_true rfl) (qb_qv rfl (by decide) (by decide)) ?_
          refine go_c rfl ?_
          refine go_iceq rfl (fun e2 => ?_) (fun e2 => ?_)
          · refine go_c rfl ?_
            refine go_ist_3_2 rfl rfl ?_
            refine go_ild_3_2 rfl ?_
            refine go_ifeq rfl (fun e3 => ?_) (fun e3 => ?_)
            · refine go_c rfl ?_
              refine go_goto rfl ?_
              exact fin_i rfl rfl rfl
            · exact absurd rfl e3
          · exact absurd hnew.2 e2
        · exact absurd hnew.1 e
      · refine go_ald_2_0 rfl ?_
        refine go_getr rfl ⟨_, rfl, rfl, by decide, by decide⟩ ?_
        refine go_c rfl ?_
        refine go_ald_2_0 rfl ?_
        refine go_getr rfl ⟨_, rfl, rfl, by decide, by decide⟩ ?_
        refine go_c rfl ?_
        refine go_iald (j := 1) rfl ⟨rfl, by decide, by decide, by decide⟩ rfl (by decide) ?_
        rw [show (qj u B).1 195 1 = nI nm from b1]
        refine go_ald_2_0 rfl ?_
        refine go_getl rfl ⟨_, rfl, rfl, by decide, by decide⟩ ?_
        rw [hW]
        refine go_call4 rfl (mS u) (Nat.le_of_ble_eq_true rfl) rfl ?_
        refine go_c rfl ?_
        refine go_icne rfl (fun e => ?_) (fun e => ?_)
        · refine go_ald_2_0 rfl ?_
          refine go_getr rfl ⟨_, rfl, rfl, by decide, by decide⟩ ?_
          refine go_c rfl ?_
          refine go_ald_2_0 rfl ?_
          refine go_getr rfl ⟨_, rfl, rfl, by decide, by decide⟩ ?_
          refine go_c rfl ?_
          refine go_iald (j := 2) rfl ⟨rfl, by decide, by decide, by decide⟩ rfl (by decide) ?_
          rw [show (qj u B).1 195 2 = nI ns from b2]
          refine go_ald_2_0 rfl ?_
          refine go_getl rfl ⟨_, rfl, rfl, by decide, by decide⟩ ?_
          rw [hW]
          refine go_call4 rfl (mT u) (Nat.le_of_ble_eq_true rfl) rfl ?_
          refine go_c rfl ?_
          refine go_iceq rfl (fun e2 => ?_) (fun e2 => ?_)
          · refine go_ald_2_0 rfl ?_
            refine go_getr rfl ⟨_, rfl, rfl, by decide, by decide⟩ ?_
            refine go_ild_2_1 rfl ?_
            refine go_ald_2_0 rfl ?_
            refine go_getl rfl ⟨_, rfl, rfl, by decide, by decide⟩ ?_
            rw [hW]
            refine go_last (j := j) rfl (⟨rfl, by decide, by decide, by decide⟩) (rfl) (by omega) ?_
            rw [qj_UL (by decide)]
            refine go_ald_2_0 rfl ?_
            refine go_call1 rfl (m1 u) (Nat.le_of_ble_eq_true rfl) (qb_qv rfl (by decide) (by decide)) ?_
            refine go_c rfl ?_
            exact fin_i rfl rfl rfl
          · exact absurd hnew.2 e2
        · exact absurd hnew.1 e
    · refine Or.inr ⟨3, fun u => enC u _ ?_, fun u => enM u _ ?_⟩
      · have no : qa_lm (qe (d + 3)) (qa_cd qc_33) (37, [.ref 139, .ref 65, .retAddr 0], [], (qb_hp (qj A u), 149, c)) = some (some (.int (0)), (qb_hp (qj (fC A 3 (tx_p n l b p)) u), 149, c)) := by
          refine go_c rfl ?_
          refine go_goto rfl ?_
          refine go_ist_3_2 rfl rfl ?_
          refine go_ild_3_2 rfl ?_
          refine go_ifeq rfl (fun e => ?_) (fun e => ?_)
          · exact absurd e (by decide)
          · refine go_ald_3_1 rfl ?_
            refine go_c rfl ?_
            refine go_call2 rfl (pc_fail (d + 2) c hC 3 u) (Nat.le_of_ble_eq_true rfl) (qb_qv rfl (by decide) (by decide)) ?_
            refine go_ifeq rfl (fun e2 => ?_) (fun e2 => ?_)
            · refine go_c rfl ?_
              exact fin_i rfl rfl rfl
            · exact absurd rfl e2
        refine go_ald_3_0 rfl ?_
        refine go_ald_3_1 rfl ?_
        refine go_getl rfl ⟨_, rfl, rfl, by decide, by decide⟩ ?_
        rw [hL]
        refine go_call2 rfl (cS u) (Nat.le_of_ble_eq_true rfl) (qb_qv rfl (by decide) (by decide)) ?_
        refine go_c rfl ?_
        refine go_icne rfl (fun e => ?_) (fun e => ?_)
        · refine go_ald_3_0 rfl ?_
          refine go_ald_3_1 rfl ?_
          refine go_getl rfl ⟨_, rfl, rfl, by decide, by decide⟩ ?_
          rw [hL]
          refine go_call2 rfl (cT u) (Nat.le_of_ble_eq_true rfl) (qb_qv rfl (by decide) (by decide)) ?_
          refine go_c rfl ?_
          refine go_iceq rfl (fun e2 => ?_) (fun e2 => ?_)
          · exact absurd ⟨e, e2⟩ hnew
          · exact no
        · exact no
      · have hb := pm_bad (d' + 3) c hM 3 u
        rw [if_neg (by omega)] at hb
        have no : qa_lm (qe (d' + 4)) (qa_cd qc_186) (58, [.ref 192, .int (nI j)], [], (qb_hp (qj u B), 149, c)) = some (some (.int (0)), (qb_hp (qj u (fM B 3 (tx_p n l b p))), 149, c)) := by
          refine go_ald_2_0 rfl ?_
          refine go_c rfl ?_
          refine go_call2 rfl (hb) (Nat.le_of_ble_eq_true rfl) (qb_qv rfl (by decide) (by decide)) ?_
          exact fin_i rfl rfl rfl
        refine go_ald_2_0 rfl ?_
        refine go_getr rfl ⟨_, rfl, rfl, by decide, by decide⟩ ?_
        refine go_c rfl ?_
        refine go_ald_2_0 rfl ?_
        refine go_getr rfl ⟨_, rfl, rfl, by decide, by decide⟩ ?_
        refine go_c rfl ?_
        refine go_iald (j := 1) rfl ⟨rfl, by decide, by decide, by decide⟩ rfl (by decide) ?_
        rw [show (qj u B).1 195 1 = nI nm from b1]
        refine go_ald_2_0 rfl ?_
        refine go_getl rfl ⟨_, rfl, rfl, by decide, by decide⟩ ?_
        rw [hW]
        refine go_call4 rfl (mS u) (Nat.le_of_ble_eq_true rfl) rfl ?_
        refine go_c rfl ?_
        refine go_icne rfl (fun e => ?_) (fun e => ?_)
        · refine go_ald_2_0 rfl ?_
          refine go_getr rfl ⟨_, rfl, rfl, by decide, by decide⟩ ?_
          refine go_c rfl ?_
          refine go_ald_2_0 rfl ?_
          refine go_getr rfl ⟨_, rfl, rfl, by decide, by decide⟩ ?_
          refine go_c rfl ?_
          refine go_iald (j := 2) rfl ⟨rfl, by decide, by decide, by decide⟩ rfl (by decide) ?_
          rw [show (qj u B).1 195 2 = nI ns from b2]
          refine go_ald_2_0 rfl ?_
          refine go_getl rfl ⟨_, rfl, rfl, by decide, by decide⟩ ?_
          rw [hW]
          refine go_call4 rfl (mT u) (Nat.le_of_ble_eq_true rfl) rfl ?_
          refine go_c rfl ?_
          refine go_iceq rfl (fun e2 => ?_) (fun e2 => ?_)
          · exact absurd ⟨e, e2⟩ hnew
          · exact no
        · exact no
  · refine Or.inr ⟨1, fun u => ?_, fun u => ?_⟩
    · refine (en_33 (d + 3) 139 65 _).trans ?_
      refine go_ald_3_1 rfl ?_
      refine go_call1 rfl (pc_isAtName (d + 2) c hC u) (Nat.le_of_ble_eq_true rfl) (qb_qv rfl (by decide) (by decide)) ?_
      refine go_ifne rfl (fun e => ?_) (fun e => ?_)
      · refine go_ald_3_1 rfl ?_
        refine go_c rfl ?_
        refine go_call2 rfl (pc_fail (d + 2) c hC 1 u) (Nat.le_of_ble_eq_true rfl) (qb_qv rfl (by decide) (by decide)) ?_
        exact fin_i rfl rfl rfl
      · exact absurd (qB_f hnm) e
    · have hb := pm_bad (d' + 3) c hM 1 u
      rw [ite_self] at hb
      refine (en_186 (d' + 4) 192 (nI j) _).trans ?_
      refine go_ald_2_0 rfl ?_
      refine go_call1 rfl (pm_isName (d' + 1) c hM u) (Nat.le_of_ble_eq_true rfl) (qb_qv rfl (by decide) (by decide)) ?_
      refine go_ifne rfl (fun e => ?_) (fun e => ?_)
      · refine go_ald_2_0 rfl ?_
        refine go_c rfl ?_
        refine go_call2 rfl (hb) (Nat.le_of_ble_eq_true rfl) (qb_qv rfl (by decide) (by decide)) ?_
        exact fin_i rfl rfl rfl
      · exact absurd (qB_f hnm) e
