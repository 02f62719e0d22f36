/-! a board, read by both -/
theorem pc_open (d : Nat) (c : Nat × Nat) {M : qb_M} {n l : Nat} {b : Nat → Nat} (hn : n ≤ 940) (hl : l ≤ 940) (hb : ∀ k, k < n → b k < 256) (h1 : M.1 65 1 = nI n) (h2 : ∀ k, k < n → M.1 66 k = nI (b k)) : ∃ M', (∀ u, qe (d + 4) 19 [.ref 65, .int (nI l)] (qb_hp (qj M u), 149, c) = some (none, (qb_hp (qj M' u), 149, c))) ∧ rC M' n l b 0 ∧ M'.1 65 2 = 0 ∧ qG (fun x k => x = 65 ∧ 2 ≤ k ∧ k ≤ 10) M M' := by
  obtain ⟨M1, hM1⟩ : ∃ M1, M1 = qb_ui (qb_ui (qb_ui (qb_ui M 65 4 (nI l)) 65 5 0) 65 2 0) 65 3 0 := ⟨_, rfl⟩
  have g1 : qG (fun x k => x = 65 ∧ 2 ≤ k ∧ k ≤ 5) M M1 := by rw [hM1]; exact (((qG.rf.ui (by omega)).ui (by omega)).ui (by omega)).ui (by omega)
  have hF : tx_F M1 n l b := ⟨⟨hn, hl, hb⟩, (g1.i (by omega)).trans h1, by rw [hM1]; rfl, fun k hk => (g1.i (by omega)).trans (h2 k hk)⟩
  obtain ⟨M', m1, m2, m3⟩ := sp_step d c hF (Nat.zero_le n) (by rw [hM1]; rfl)
  refine ⟨M', fun u => ?_, ⟨Nat.zero_le n, hF.mv m3 (fun x k h => by omega), m2⟩, (m3.i (by omega)).trans (by rw [hM1]; rfl), (g1.mo (fun x k h => by omega)).tr (m3.mo (fun x k h => by omega))⟩
  refine (en_19 (d + 3) 65 (nI l) _).trans ?_
  refine go_ald_2_0 rfl ?_
  refine go_ild_2_1 rfl ?_
  refine go_puti rfl ⟨_, rfl, rfl, by decide, by decide⟩ rfl rfl ?_
  rw [qj_ui (by decide)]
  refine go_ald_2_0 rfl ?_
  refine go_c rfl ?_
  refine go_puti rfl ⟨_, rfl, rfl, by decide, by decide⟩ rfl rfl ?_
  rw [qj_ui (by decide)]
  refine go_ald_2_0 rfl ?_
  refine go_c rfl ?_
  refine go_puti rfl ⟨_, rfl, rfl, by decide, by decide⟩ rfl rfl ?_
  rw [qj_ui (by decide)]
  refine go_ald_2_0 rfl ?_
  refine go_c rfl ?_
  refine go_puti rfl ⟨_, rfl, rfl, by decide, by decide⟩ rfl rfl ?_
  rw [qj_ui (by decide), ← hM1]
  refine go_ald_2_0 rfl ?_
  refine go_call1 rfl (m1 u) (Nat.le_of_ble_eq_true rfl) (qb_qv rfl (by decide) (by decide)) ?_
  exact fin_v rfl rfl
theorem pm_begin (d : Nat) (c : Nat × Nat) {M : qb_M} {n l : Nat} {b : Nat → Nat} (hn : n ≤ 940) (hl : l ≤ 940) (hb : ∀ k, k < n → b k < 256) (h1 : M.1 192 2 = nI n) (h2 : ∀ k, k < n → M.1 193 k = nI (b k)) : ∃ M', (∀ u, qe (d + 4) 168 [.ref 192, .int (nI l)] (qb_hp (qj u M), 149, c) = some (none, (qb_hp (qj u M'), 149, c))) ∧ rM M' n l b 0 ∧ M'.1 192 10 = 0 ∧ M'.1 192 2 = 0 ∧ qG (fun x k => x = 192 ∧ (k = 0 ∨ 2 ≤ k ∧ k ≤ 10 ∨ k = 12)) M M' := by
  obtain ⟨M1, hM1⟩ : ∃ M1, M1 = qb_ui (qb_ui (qb_ui (qb_ui (qb_ui (qb_ui M 192 0 0) 192 2 0) 192 3 (nI n)) 192 4 (nI l)) 192 10 0) 192 5 0 := ⟨_, rfl⟩
  have g1 : qG (fun x k => x = 192 ∧ (k = 0 ∨ k = 2 ∨ k = 3 ∨ k = 4 ∨ k = 10 ∨ k = 5)) M M1 := by rw [hM1]; exact (((((qG.rf.ui (by omega)).ui (by omega)).ui (by omega)).ui (by omega)).ui (by omega)).ui (by omega)
  have hF : tx_G M1 n l b := ⟨⟨hn, hl, hb⟩, by rw [hM1]; rfl, by rw [hM1]; rfl, fun k hk => (g1.i (by omega)).trans (h2 k hk)⟩
  obtain ⟨M', m1, m2, m3⟩ := sp_go d c hF (Nat.zero_le n) (by rw [hM1]; rfl)
  refine ⟨M', fun u => ?_, ⟨Nat.zero_le n, hF.mv m3 (fun x k h => by omega), m2⟩, (m3.i (by omega)).trans (by rw [hM1]; rfl), (m3.i (by omega)).trans (by rw [hM1]; rfl), (g1.mo (fun x k h => by omega)).tr (m3.mo (fun x k h => by omega))⟩
  have htk := sp_take (d + 2) (qj u (qb_ui M 192 0 0)) c
  rw [show (qj u (qb_ui M 192 0 0)).1 192 2 = nI n from h1, qj_UI (by decide)] at htk
  refine (en_168 (d + 3) 192 (nI l) _).trans ?_
  refine go_ald_2_0 rfl ?_
  refine go_c rfl ?_
  refine go_puti rfl ⟨_, rfl, rfl, by decide, by decide⟩ rfl rfl ?_
  rw [qj_UI (by decide)]
  refine go_ald_2_0 rfl ?_
  refine go_ald_2_0 rfl ?_
  refine go_call1 rfl (htk) (Nat.le_of_ble_eq_true rfl) (qb_qv rfl (by decide) (by decide)) ?_
  refine go_puti rfl ⟨_, rfl, rfl, by decide, by decide⟩ rfl rfl ?_
  rw [qj_UI (by decide)]
  refine go_ald_2_0 rfl ?_
  refine go_ild_2_1 rfl ?_
  refine go_puti rfl ⟨_, rfl, rfl, by decide, by decide⟩ rfl rfl ?_
  rw [qj_UI (by decide)]
  refine go_ald_2_0 rfl ?_
  refine go_c rfl ?_
  refine go_puti rfl ⟨_, rfl, rfl, by decide, by decide⟩ rfl rfl ?_
  rw [qj_UI (by decide)]
  refine go_ald_2_0 rfl ?_
  refine go_c rfl ?_
  refine go_puti rfl ⟨_, rfl, rfl, by decide, by decide⟩ rfl rfl ?_
  rw [qj_UI (by decide), ← hM1]
  refine go_ald_2_0 rfl ?_
  refine go_call1 rfl (m1 u) (Nat.le_of_ble_eq_true rfl) (qb_qv rfl (by decide) (by decide)) ?_
  exact fin_v rfl rfl
def bL (x k : Nat) : Prop := bF x k ∨ x = 139 ∧ k = 10
def bN (x k : Nat) : Prop := bG x k ∨ x = 139 ∧ k = 10
theorem br_loop (d d' : Nat) (c : Nat × Nat) {n l : Nat} {b : Nat → Nat} : ∀ (m : Nat) (M : qb_M) (p i : Nat) (l2 : Value), n - p < m → rC M n l b p → rM M n l b p → bE M → M.1 139 10 = nI i → 2 * i ≤ p → (∃ M' j, (∀ u, qa_lm (qe (d + 8)) (qa_cd qc_18) (13, [.ref 139, .ref 65, .int (nI i)], [], (qb_hp (qj M u), 149, c)) = some (some (.int (1)), (qb_hp (qj M' u), 149, c))) ∧ (∀ u, qa_lm (qe (d' + 9)) (qa_cd qc_167) (58, [.ref 192, .int (nI i), l2], [], (qb_hp (qj u M), 149, c)) = qa_lm (qe (d' + 9)) (qa_cd qc_167) (92, [.ref 192, .int (nI j), l2], [], (qb_hp (qj u M'), 149, c))) ∧ M'.1 139 10 = nI j ∧ bE M' ∧ qG bL M M') ∨ (∃ M' pl : _, (∀ u, qa_lm (qe (d + 8)) (qa_cd qc_18) (13, [.ref 139, .ref 65, .int (nI i)], [], (qb_hp (qj M u), 149, c)) = some (some (.int (0)), (qb_hp (qj M' u), 149, c))) ∧ (∀ u, qa_lm (qe (d' + 9)) (qa_cd qc_167) (58, [.ref 192, .int (nI i), l2], [], (qb_hp (qj u M), 149, c)) = some (some (.int (-1 - nI pl)), (qb_hp (qj u M'), 149, c))) ∧ M'.1 65 3 = nI pl ∧ M'.1 65 2 = M'.1 192 10 ∧ qG bN M M') := by
  intro m
  induction m with
  | zero => intro M p i l2 h; exact absurd h (Nat.not_lt_zero _)
  | succ m ih =>
    intro M p i l2 hm hC hM hB hl hi
    have hpn := hC.1
    have hn9 := hC.2.1.1.1
    have hk9 := tx_k9 (n := n) (l := l) (b := b) (p := p)
    have cE : ∀ u R, (tx_k n l b p = 0 → some (some (.int (1)), (qb_hp (qj M u), 149, c)) = R) → (tx_k n l b p ≠ 0 → qa_lm (qe (d + 8)) (qa_cd qc_18) (27, [.ref 139, .ref 65, .int (nI i)], [], (qb_hp (qj M u), 149, c)) = R) → qa_lm (qe (d + 8)) (qa_cd qc_18) (13, [.ref 139, .ref 65, .int (nI i)], [], (qb_hp (qj M u), 149, c)) = R := fun u R g1 g2 => by
      refine go_ild_3_2 rfl ?_
      refine go_c rfl ?_
      refine go_icge rfl (fun e => ?_) (fun e => ?_)
      · exact absurd ((nI_leI (a := 940) (by decide) (by omega)).mp e) (by omega)
      · refine go_ald_3_1 rfl ?_
        refine go_geti rfl ⟨_, rfl, rfl, by decide, by decide⟩ ?_
        rw [show (qj M u).1 65 7 = nI (tx_k n l b p) from hC.2.2.2.2.1]
        refine go_ifeq rfl (fun e => ?_) (fun e => ?_)
        · have := g1 ((nI_eq (b := 0) hk9 (by decide)).mp e)
          refine go_c rfl ?_
          exact fin_i rfl rfl this
        · exact g2 (fun z => e (by rw [z]; rfl))
    have mE : ∀ u R, (tx_k n l b p = 0 → qa_lm (qe (d' + 9)) (qa_cd qc_167) (92, [.ref 192, .int (nI i), l2], [], (qb_hp (qj u M), 149, c)) = R) → (tx_k n l b p ≠ 0 → qa_lm (qe (d' + 9)) (qa_cd qc_167) (65, [.ref 192, .int (nI i), l2], [], (qb_hp (qj u M), 149, c)) = R) → qa_lm (qe (d' + 9)) (qa_cd qc_167) (58, [.ref 192, .int (nI i), l2], [], (qb_hp (qj u M), 149, c)) = R := fun u R g1 g2 => by
      refine go_ald_3_0 rfl ?_
      refine go_geti rfl ⟨_, rfl, rfl, by decide, by decide⟩ ?_
      rw [show (qj u M).1 192 7 = nI (if 4 ≤ tx_k n l b p then 4 else tx_k n l b p) from hM.2.2.2.2.1]
      refine go_ifeq rfl (fun e => ?_) (fun e => ?_)
      · refine g1 ?_
        have := (nI_eq (b := 0) tx_m9 (by decide)).mp e
        split at this <;> omega
      · exact g2 (fun z => e (by rw [z]; rfl))
    by_cases h0 : tx_k n l b p = 0
    · exact Or.inl ⟨M, i, fun u => cE u _ (fun _ => rfl) (fun z => absurd h0 z), fun u => mE u _ (fun _ => rfl) (fun z => absurd h0 z), hl, hB, qG.rf⟩
    · have mF : ∀ (N : qb_M) (pl : Nat) u, N.1 192 11 = nI pl → qa_lm (qe (d' + 9)) (qa_cd qc_167) (79, [.ref 192, .int (nI i), l2], [], (qb_hp (qj u N), 149, c)) = some (some (.int (-1 - nI pl)), (qb_hp (qj u N), 149, c)) := fun N pl u hN => by
        refine go_c rfl ?_
        refine go_ald_3_0 rfl ?_
        refine go_geti rfl ⟨_, rfl, rfl, by decide, by decide⟩ ?_
        rw [show (qj u N).1 192 11 = nI pl from hN]
        refine go_isub rfl ?_
        exact fin_i rfl rfl rfl
      obtain ⟨M1, r, g1, g2, g3⟩ := br_line (d + 1) (d' + 1) c hC hM hB
      rcases g3 with ⟨hr, ⟨p', hp', hC1, hM1⟩, hB1, gF⟩ | ⟨hr, ⟨f, pl, hpl, f1, f2, f3, f4⟩, gF⟩
      · subst hr
        have cL : ∀ u R, qa_lm (qe (d + 8)) (qa_cd qc_18) (35, [.ref 139, .ref 65, .int (nI i)], [], (qb_hp (qj M1 u), 149, c)) = R → qa_lm (qe (d + 8)) (qa_cd qc_18) (13, [.ref 139, .ref 65, .int (nI i)], [], (qb_hp (qj M u), 149, c)) = R := fun u R hR => cE u R (fun z => absurd z h0) (fun _ => by
          refine go_ald_3_0 rfl ?_
          refine go_ald_3_1 rfl ?_
          refine go_call2 rfl (g1 u) (Nat.le_of_ble_eq_true rfl) (qb_qv rfl (by decide) (by decide)) ?_
          refine go_ifeq rfl (fun e => ?_) (fun e => ?_)
          · exact absurd e (by decide)
          · exact hR)
        have mL : ∀ u R, qa_lm (qe (d' + 9)) (qa_cd qc_167) (72, [.ref 192, .int (nI i), l2], [], (qb_hp (qj u M1), 149, c)) = R → qa_lm (qe (d' + 9)) (qa_cd qc_167) (58, [.ref 192, .int (nI i), l2], [], (qb_hp (qj u M), 149, c)) = R := fun u R hR => mE u R (fun z => absurd z h0) (fun _ => by
          refine go_ald_3_0 rfl ?_
          refine go_call1 rfl (g2 u) (Nat.le_of_ble_eq_true rfl) (qb_qv rfl (by decide) (by decide)) ?_
          refine go_ifeq rfl (fun e => ?_) (fun e => ?_)
          · exact absurd e (by decide)
          · exact hR)
        obtain ⟨t1, t2⟩ := pc_takeSign (d + 4) c hC1 59 (by decide)
        obtain ⟨s1, s2⟩ := pm_readEnd (d' + 5) c hM1
        by_cases h59 : tx_k n l b p' = 59
        · obtain ⟨A2, a1, a2, a3⟩ := t1 h59
          obtain ⟨B2, b1, b2, b3⟩ := s1 h59
          have hpe := tx_e_lt hC1.1 (by omega) (by omega : tx_k n l b p' ≠ 1)
          obtain ⟨A3, hA3⟩ : ∃ A3, A3 = qb_ui A2 139 10 (nI (i + 1)) := ⟨_, rfl⟩
          have gA : qG (fun x k => x = 65 ∧ 5 ≤ k ∧ k ≤ 10 ∨ x = 139 ∧ k = 10) M1 A3 := by rw [hA3]; exact (a3.mo (fun x k h => by omega)).ui (by omega)
          have gJ := qj_G gA b3
          have hE : bE (qj A3 B2) := by
            obtain ⟨nw, nm, ns, V, F0, lo, hi, se, wt, vt, ⟨z0, ⟨z1, z2, z3, z4, z5⟩, ⟨y1, y2, y3, y4, y5⟩, z6, z7⟩, ⟨w1, w2⟩, v1, v2⟩ := hB1
            refine ⟨nw, nm, ns, V, F0, lo, hi, se, wt, vt, ⟨z0, ⟨(gJ.i (by omega)).trans z1, (gJ.i (by omega)).trans z2, (gJ.i (by omega)).trans z3, (gJ.i (by omega)).trans z4, (gJ.i (by omega)).trans z5⟩, ⟨(gJ.i (by omega)).trans y1, (gJ.i (by omega)).trans y2, (gJ.i (by omega)).trans y3, (gJ.i (by omega)).trans y4, (gJ.i (by omega)).trans y5⟩, fun k hk => ?_, fun k hk => ?_⟩, ⟨(gJ.i (by omega)).trans w1, (gJ.i (by omega)).trans w2⟩, (gJ.i (by omega)).trans v1, (gJ.i (by omega)).trans v2⟩
            · rw [gJ.i (by omega), gJ.i (by omega), gJ.i (by omega), gJ.i (by omega), gJ.l (by omega), gJ.l (by omega)]
              exact z6 k hk
            · rw [gJ.i (by omega), gJ.i (by omega), gJ.l (by omega), gJ.l (by omega)]
              exact z7 k hk
          have hC3 : rC (qj A3 B2) n l b (tx_e n l b p') := rC_j (by rw [hA3]; exact a2.mv (P := fun x k => x = 139) (qG.rf.ui rfl) (fun x k h => by omega))
          have hM3 : rM (qj A3 B2) n l b (tx_e n l b p') := rM_j b2
          have hl3 : (qj A3 B2).1 139 10 = nI (i + 1) := by
            show A3.1 139 10 = _
            rw [hA3]
            exact qb_ui_1s
          have h10 : M1.1 139 10 = nI i := (gF.i (by unfold bF; omega)).trans hl
          have cS : ∀ u, qa_lm (qe (d + 8)) (qa_cd qc_18) (35, [.ref 139, .ref 65, .int (nI i)], [], (qb_hp (qj M1 u), 149, c)) = qa_lm (qe (d + 8)) (qa_cd qc_18) (13, [.ref 139, .ref 65, .int (nI (i + 1))], [], (qb_hp (qj (qj A3 B2) u), 149, c)) := fun u => by
            rw [qj_j, hA3]
            refine go_ald_3_1 rfl ?_
            refine go_c rfl ?_
            refine go_call2 rfl (a1 u) (Nat.le_of_ble_eq_true rfl) (qb_qv rfl (by decide) (by decide)) ?_
            refine go_ifne rfl (fun e => ?_) (fun e => ?_)
            · exact absurd e (by decide)
            · refine go_ald_3_0 rfl ?_
              refine go_dup_ref rfl ?_
              refine go_geti rfl ⟨_, rfl, rfl, by decide, by decide⟩ ?_
              refine go_c rfl ?_
              rw [show (qj A2 u).1 139 10 = nI i from (a3.i (by omega)).trans h10]
              refine go_iadd rfl ?_
              rw [nI_1]
              refine go_puti rfl ⟨_, rfl, rfl, by decide, by decide⟩ rfl rfl ?_
              rw [qj_ui (by decide)]
              refine go_inc_3_2 rfl rfl ?_
              refine go_goto rfl ?_
              rw [nI_1]
              rfl
          have mS : ∀ u, qa_lm (qe (d' + 9)) (qa_cd qc_167) (72, [.ref 192, .int (nI i), l2], [], (qb_hp (qj u M1), 149, c)) = qa_lm (qe (d' + 9)) (qa_cd qc_167) (58, [.ref 192, .int (nI (i + 1)), l2], [], (qb_hp (qj u (qj A3 B2)), 149, c)) := fun u => by
            rw [qj_J]
            refine go_ald_3_0 rfl ?_
            refine go_call1 rfl (b1 u) (Nat.le_of_ble_eq_true rfl) (qb_qv rfl (by decide) (by decide)) ?_
            refine go_ifne rfl (fun e => ?_) (fun e => ?_)
            · exact absurd e (by decide)
            · refine go_inc_3_1 rfl rfl ?_
              refine go_goto rfl ?_
              rw [nI_1]
              rfl
          have gM : qG bL M1 (qj A3 B2) := gJ.mo (fun x k h => by unfold bL bF; omega)
          have hle := a2.1
          rcases ih (qj A3 B2) (tx_e n l b p') (i + 1) l2 (by omega) hC3 hM3 hE hl3 (by omega) with ⟨M', j, o1, o2, o3, o4, o5⟩ | ⟨M', pl, o1, o2, o3, o4, o5⟩
          · exact Or.inl ⟨M', j, fun u => cL u _ ((cS u).trans (o1 u)), fun u => mL u _ ((mS u).trans (o2 u)), o3, o4, (gF.mo (fun x k h => Or.inl h)).tr (gM.tr o5)⟩
          · exact Or.inr ⟨M', pl, fun u => cL u _ ((cS u).trans (o1 u)), fun u => mL u _ ((mS u).trans (o2 u)), o3, o4, (gF.mo (fun x k h => Or.inl (Or.inl h))).tr ((gM.mo (fun x k h => h.elim (fun z => Or.inl (Or.inl z)) (fun z => Or.inr z))).tr o5)⟩
        · refine Or.inr ⟨qj (fC M1 1 (tx_p n l b p')) (fM M1 1 (tx_p n l b p')), tx_p n l b p', fun u => cL u _ ?_, fun u => mL u _ ?_, rfl, rfl, (gF.mo (fun x k h => Or.inl (Or.inl h))).tr ((qj_G fC_G fM_G).mo (fun x k h => Or.inl (Or.inr (by omega))))⟩
          · rw [qj_j]
            refine go_ald_3_1 rfl ?_
            refine go_c rfl ?_
            refine go_call2 rfl (t2 h59 u) (Nat.le_of_ble_eq_true rfl) (qb_qv rfl (by decide) (by decide)) ?_
            refine go_ifne rfl (fun e => ?_) (fun e => ?_)
            · refine go_c rfl ?_
              exact fin_i rfl rfl rfl
            · exact absurd rfl e
          · rw [qj_J]
            refine go_ald_3_0 rfl ?_
            refine go_call1 rfl (s2 h59 u) (Nat.le_of_ble_eq_true rfl) (qb_qv rfl (by decide) (by decide)) ?_
            refine go_ifne rfl (fun e => ?_) (fun e => ?_)
            · exact mF _ _ u rfl
            · exact absurd rfl e
      · subst hr
        refine Or.inr ⟨M1, pl, fun u => cE u _ (fun z => absurd z h0) (fun _ => ?_), fun u => mE u _ (fun z => absurd z h0) (fun _ => ?_), f3, f1.trans f2.symm, gF.mo (fun x k h => Or.inl h)⟩
        · refine go_ald_3_0 rfl ?_
          refine go_ald_3_1 rfl ?_
          refine go_call2 rfl (g1 u) (Nat.le_of_ble_eq_true rfl) (qb_qv rfl (by decide) (by decide)) ?_
          refine go_ifeq rfl (fun e => ?_) (fun e => ?_)
          · refine go_c rfl ?_
            exact fin_i rfl rfl rfl
          · exact absurd rfl e
        · refine go_ald_3_0 rfl ?_
          refine go_call1 rfl (g2 u) (Nat.le_of_ble_eq_true rfl) (qb_qv rfl (by decide) (by decide)) ?_
          refine go_ifeq rfl (fun e => ?_) (fun e => ?_)
          · exact mF _ _ u f4
          · exact absurd rfl e
