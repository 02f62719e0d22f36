/-! a book, read by both -/
def kL (x k : Nat) : Prop := kF x k ∨ x = 133 ∧ k = 5 ∨ x = 192 ∧ k = 38
def kM (x k : Nat) : Prop := kG x k ∨ x = 133 ∧ k = 5 ∨ x = 192 ∧ k = 38
theorem kR_mv {M N : qb_M} {i nm : Nat} (h : kR M i nm) (hf : ∀ x k, (134 ≤ x ∧ x ≤ 138 ∧ k = i) ∨ (x = 209 ∧ 5 * i ≤ k ∧ k ≤ 5 * i + 4) → N.1 x k = M.1 x k) : kR N i nm := by
  unfold kR
  rw [hf 134 i (Or.inl ⟨by decide, by decide, rfl⟩), hf 135 i (Or.inl ⟨by decide, by decide, rfl⟩), hf 136 i (Or.inl ⟨by decide, by decide, rfl⟩), hf 137 i (Or.inl ⟨by decide, by decide, rfl⟩), hf 138 i (Or.inl ⟨by decide, by decide, rfl⟩), hf 209 (5 * i) (Or.inr ⟨rfl, by omega, by omega⟩), hf 209 (5 * i + 1) (Or.inr ⟨rfl, by omega, by omega⟩), hf 209 (5 * i + 2) (Or.inr ⟨rfl, by omega, by omega⟩), hf 209 (5 * i + 3) (Or.inr ⟨rfl, by omega, by omega⟩), hf 209 (5 * i + 4) (Or.inr ⟨rfl, by omega, by omega⟩)]
  exact h
theorem kP_mv {P : Nat → Nat → Prop} {M N : qb_M} {nm : Nat} (h : kP M M nm) (hf : qG P M N) (hd : ∀ x k, x = 67 ∨ x = 70 ∨ x = 194 ∧ k = 1 ∨ x = 199 → ¬ P x k) : kP N N nm := ⟨(hf.i (hd _ _ (by omega))).trans h.1, (hf.i (hd _ _ (by omega))).trans h.2.1, h.2.2.1, fun k hk => by rw [hf.l (hd _ _ (by omega)), hf.l (hd _ _ (by omega))]; exact h.2.2.2 k hk⟩
theorem bk_loop (d d' : Nat) (c : Nat × Nat) {n l : Nat} {b : Nat → Nat} {nm : Nat} (l1 l2 l3 : Value) : ∀ (m : Nat) (M : qb_M) (p L : Nat), n - p < m → rC M n l b p → rM M n l b p → M.1 133 5 = nI L → M.1 192 38 = nI L → L ≤ 40 → kP M M nm → (∀ i, i < L → kR M i nm) → (∃ M' L', (∀ u, qa_lm (qe (d + 8)) (qa_cd qc_131) (19, [.ref 133, .ref 65, .ref 67, .int (nI L)], [], (qb_hp (qj M u), 149, c)) = some (some (.int (1)), (qb_hp (qj M' u), 149, c))) ∧ (∀ u, qa_lm (qe (d' + 8)) (qa_cd qc_269) (30, [.ref 192, l1, l2, l3], [], (qb_hp (qj u M), 149, c)) = qa_lm (qe (d' + 8)) (qa_cd qc_269) (65, [.ref 192, l1, l2, l3], [], (qb_hp (qj u M'), 149, c))) ∧ L' ≤ 40 ∧ M'.1 133 5 = nI L' ∧ M'.1 192 38 = nI L' ∧ (∀ i, i < L' → kR M' i nm) ∧ qG kL M M') ∨ (∃ M' pl : _, (∀ u, qa_lm (qe (d + 8)) (qa_cd qc_131) (19, [.ref 133, .ref 65, .ref 67, .int (nI L)], [], (qb_hp (qj M u), 149, c)) = some (some (.int (0)), (qb_hp (qj M' u), 149, c))) ∧ (∀ u, qa_lm (qe (d' + 8)) (qa_cd qc_269) (30, [.ref 192, l1, l2, l3], [], (qb_hp (qj u M), 149, c)) = some (some (.int (-2 - nI pl)), (qb_hp (qj u M'), 149, c))) ∧ M'.1 65 3 = nI pl ∧ M'.1 65 2 = M'.1 192 10 ∧ qG kM M M') := by
  intro m
  induction m with
  | zero => intro M p L h; exact absurd h (Nat.not_lt_zero _)
  | succ m ih =>
    intro M p L hm hC hM h5 h38 hL hN hK
    have hpn := hC.1
    have hk9 := tx_k9 (n := n) (l := l) (b := b) (p := p)
    have cE : ∀ u R, (tx_k n l b p = 0 → some (some (.int (1)), (qb_hp (qj M u), 149, c)) = R) → (tx_k n l b p ≠ 0 → qa_lm (qe (d + 8)) (qa_cd qc_131) (32, [.ref 133, .ref 65, .ref 67, .int (nI L)], [], (qb_hp (qj M u), 149, c)) = R) → qa_lm (qe (d + 8)) (qa_cd qc_131) (19, [.ref 133, .ref 65, .ref 67, .int (nI L)], [], (qb_hp (qj M u), 149, c)) = R := fun u R g1 g2 => by
      refine go_ild_4_3 rfl ?_
      refine go_c rfl ?_
      refine go_icgt rfl (fun e => ?_) (fun e => ?_)
      · exact absurd e (by rw [show (40 : Int32) = nI 40 from rfl]; exact fun z => absurd ((nI_ltI (by omega) (by omega)).mp z) (by omega))
      · refine go_ald_4_1 rfl ?_
        refine go_geti rfl ⟨_, rfl, rfl, by decide, by decide⟩ ?_
        rw [show (qj M u).1 65 7 = nI (tx_k n l b p) from hC.2.2.2.2.1]
        refine go_ifeq rfl (fun e => ?_) (fun e => ?_)
        · have := g1 ((nI_eq (b := 0) hk9 (by decide)).mp e)
          refine go_c rfl ?_
          exact fin_i rfl rfl this
        · exact g2 (fun z => e (by rw [z]; rfl))
    have mE : ∀ u R, (tx_k n l b p = 0 → qa_lm (qe (d' + 8)) (qa_cd qc_269) (65, [.ref 192, l1, l2, l3], [], (qb_hp (qj u M), 149, c)) = R) → (tx_k n l b p ≠ 0 → qa_lm (qe (d' + 8)) (qa_cd qc_269) (37, [.ref 192, l1, l2, l3], [], (qb_hp (qj u M), 149, c)) = R) → qa_lm (qe (d' + 8)) (qa_cd qc_269) (30, [.ref 192, l1, l2, l3], [], (qb_hp (qj u M), 149, c)) = R := fun u R g1 g2 => by
      refine go_ald_4_0 rfl ?_
      refine go_geti rfl ⟨_, rfl, rfl, by decide, by decide⟩ ?_
      rw [show (qj u M).1 192 7 = nI (if 4 ≤ tx_k n l b p then 4 else tx_k n l b p) from hM.2.2.2.2.1]
      refine go_ifeq rfl (fun e => ?_) (fun e => ?_)
      · refine g1 ?_
        have := (nI_eq (b := 0) tx_m9 (by decide)).mp e
        split at this <;> omega
      · exact g2 (fun z => e (by rw [z]; rfl))
    by_cases h0 : tx_k n l b p = 0
    · exact Or.inl ⟨M, L, fun u => cE u _ (fun _ => rfl) (fun z => absurd h0 z), fun u => mE u _ (fun _ => rfl) (fun z => absurd h0 z), hL, h5, h38, hK, qG.rf⟩
    · have mF : ∀ (N : qb_M) (pl : Nat) u, N.1 192 11 = nI pl → qa_lm (qe (d' + 8)) (qa_cd qc_269) (44, [.ref 192, l1, l2, l3], [], (qb_hp (qj u N), 149, c)) = some (some (.int (-2 - nI pl)), (qb_hp (qj u N), 149, c)) := fun N pl u hN => by
        refine go_c rfl ?_
        refine go_ald_4_0 rfl ?_
        refine go_geti rfl ⟨_, rfl, rfl, by decide, by decide⟩ ?_
        rw [show (qj u N).1 192 11 = nI pl from hN]
        refine go_isub rfl ?_
        exact fin_i rfl rfl rfl
      obtain ⟨M1, r, g1, g2, g3⟩ := bk_line d d' c hC hM h5 h38 hL hN
      rcases g3 with ⟨hr, ⟨p', hp', hC1, hM1⟩, ⟨hL4, hB1⟩, gF⟩ | ⟨hr, ⟨f, pl, hpl, f1, f2, f3, f4⟩, gF⟩
      · subst hr
        have cL : ∀ u R, qa_lm (qe (d + 8)) (qa_cd qc_131) (41, [.ref 133, .ref 65, .ref 67, .int (nI L)], [], (qb_hp (qj M1 u), 149, c)) = R → qa_lm (qe (d + 8)) (qa_cd qc_131) (19, [.ref 133, .ref 65, .ref 67, .int (nI L)], [], (qb_hp (qj M u), 149, c)) = R := fun u R hR => cE u R (fun z => absurd z h0) (fun _ => by
          refine go_ald_4_0 rfl ?_
          refine go_ald_4_1 rfl ?_
          refine go_ald_4_2 rfl ?_
          refine go_call3 rfl (g1 u) (Nat.le_of_ble_eq_true rfl) (qb_qv rfl (by decide) (by decide)) ?_
          refine go_ifeq rfl (fun e => ?_) (fun e => ?_)
          · exact absurd e (by decide)
          · exact hR)
        obtain ⟨t1, t2⟩ := pc_takeSign (d + 4) c hC1 59 (by decide)
        obtain ⟨s1, s2⟩ := pm_readEnd (d' + 3) c hM1
        by_cases h59 : tx_k n l b p' = 59
        · obtain ⟨A2, a1, a2, a3⟩ := t1 h59
          obtain ⟨B2, b1, b2, b3⟩ := s1 h59
          have mL : ∀ u R, qa_lm (qe (d' + 8)) (qa_cd qc_269) (52, [.ref 192, l1, l2, l3], [], (qb_hp (qj u B2), 149, c)) = R → qa_lm (qe (d' + 8)) (qa_cd qc_269) (30, [.ref 192, l1, l2, l3], [], (qb_hp (qj u M), 149, c)) = R := fun u R hR => mE u R (fun z => absurd z h0) (fun _ => by
            refine go_ald_4_0 rfl ?_
            refine go_call1 rfl (g2 u 1 (qj u B2) (Or.inr rfl) (fun _ => b1 u) (fun z => absurd z (by decide))) (Nat.le_of_ble_eq_true rfl) (qb_qv rfl (by decide) (by decide)) ?_
            refine go_ifne rfl (fun e => ?_) (fun e => ?_)
            · exact absurd e (by decide)
            · exact hR)
          have hpe := tx_e_lt hC1.1 (by omega) (by omega : tx_k n l b p' ≠ 1)
          obtain ⟨A3, hA3⟩ : ∃ A3, A3 = qb_ui A2 133 5 (nI (L + 1)) := ⟨_, rfl⟩
          obtain ⟨B3, hB3⟩ : ∃ B3, B3 = qb_ui B2 192 38 (nI (L + 1)) := ⟨_, rfl⟩
          have gA : qG (fun x k => x = 65 ∧ 5 ≤ k ∧ k ≤ 10 ∨ x = 133 ∧ k = 5) M1 A3 := by rw [hA3]; exact (a3.mo (fun x k h => by omega)).ui (by omega)
          have gB : qG (fun x k => x = 192 ∧ (5 ≤ k ∧ k ≤ 9 ∨ k = 12 ∨ k = 38)) M1 B3 := by rw [hB3]; exact (b3.mo (fun x k h => by omega)).ui (by omega)
          have gJ := qj_G gA gB
          have hC3 : rC (qj A3 B3) n l b (tx_e n l b p') := rC_j (by rw [hA3]; exact a2.mv (P := fun x k => x = 133) (qG.rf.ui rfl) (fun x k h => by omega))
          have hM3 : rM (qj A3 B3) n l b (tx_e n l b p') := rM_j (by rw [hB3]; exact b2.mv (P := fun x k => x = 192 ∧ k = 38) (qG.rf.ui ⟨rfl, rfl⟩) (fun x k h => by omega))
          have hl3 : (qj A3 B3).1 133 5 = nI (L + 1) := by
            show A3.1 133 5 = _
            rw [hA3]
            exact qb_ui_1s
          have hl4 : (qj A3 B3).1 192 38 = nI (L + 1) := by
            show B3.1 192 38 = _
            rw [hB3]
            exact qb_ui_1s
          have h51 : M1.1 133 5 = nI L := (gF.i (by unfold kQ; omega)).trans h5
          have h381 : M1.1 192 38 = nI L := (gF.i (by unfold kQ; omega)).trans h38
          have cS : ∀ u, qa_lm (qe (d + 8)) (qa_cd qc_131) (41, [.ref 133, .ref 65, .ref 67, .int (nI L)], [], (qb_hp (qj M1 u), 149, c)) = qa_lm (qe (d + 8)) (qa_cd qc_131) (19, [.ref 133, .ref 65, .ref 67, .int (nI (L + 1))], [], (qb_hp (qj (qj A3 B3) u), 149, c)) := fun u => by
            rw [qj_j, hA3]
            refine go_ald_4_1 rfl ?_
            refine go_c rfl ?_
            refine go_call2 rfl (a1 u) (Nat.le_of_ble_eq_true rfl) (qb_qv rfl (by decide) (by decide)) ?_
            refine go_ifne rfl (fun e => ?_) (fun e => ?_)
            · exact absurd e (by decide)
            · refine go_ald_4_0 rfl ?_
              refine go_dup_ref rfl ?_
              refine go_geti rfl ⟨_, rfl, rfl, by decide, by decide⟩ ?_
              refine go_c rfl ?_
              rw [show (qj A2 u).1 133 5 = nI L from (a3.i (by omega)).trans h51]
              refine go_iadd rfl ?_
              rw [nI_1]
              refine go_puti rfl ⟨_, rfl, rfl, by decide, by decide⟩ rfl rfl ?_
              rw [qj_ui (by decide)]
              refine go_inc_4_3 rfl rfl ?_
              refine go_goto rfl ?_
              rw [nI_1]
              rfl
          have mS : ∀ u, qa_lm (qe (d' + 8)) (qa_cd qc_269) (52, [.ref 192, l1, l2, l3], [], (qb_hp (qj u B2), 149, c)) = qa_lm (qe (d' + 8)) (qa_cd qc_269) (30, [.ref 192, l1, l2, l3], [], (qb_hp (qj u (qj A3 B3)), 149, c)) := fun u => by
            rw [qj_J, hB3]
            refine go_ald_4_0 rfl ?_
            refine go_dup_ref rfl ?_
            refine go_geti rfl ⟨_, rfl, rfl, by decide, by decide⟩ ?_
            refine go_c rfl ?_
            rw [show (qj u B2).1 192 38 = nI L from (b3.i (by omega)).trans h381]
            refine go_iadd rfl ?_
            rw [nI_1]
            refine go_puti rfl ⟨_, rfl, rfl, by decide, by decide⟩ rfl rfl ?_
            rw [qj_UI (by decide)]
            refine go_goto rfl ?_
            rfl
          have gM : qG kL M1 (qj A3 B3) := gJ.mo (fun x k h => by unfold kL kF; omega)
          have hle := a2.1
          have hN3 : kP (qj A3 B3) (qj A3 B3) nm := kP_mv (kP_mv hN gF (fun x k h => by unfold kQ; omega)) gJ (fun x k h => by omega)
          have hK3 : ∀ i, i < L + 1 → kR (qj A3 B3) i nm := fun i hi => by
            refine kR_mv (M := M1) ?_ (fun x k h => gJ.i (by omega))
            by_cases hi2 : i = L
            · rw [hi2]; exact hB1
            · exact kR_mv (hK i (by omega)) (fun x k h => gF.i (by unfold kQ; omega))
          rcases ih (qj A3 B3) (tx_e n l b p') (L + 1) (by omega) hC3 hM3 hl3 hl4 (by omega) hN3 hK3 with ⟨M', L', o1, o2, o3, o4, o5, o6, o7⟩ | ⟨M', pl, o1, o2, o3, o4, o5⟩
          · exact Or.inl ⟨M', L', fun u => cL u _ ((cS u).trans (o1 u)), fun u => mL u _ ((mS u).trans (o2 u)), o3, o4, o5, o6, (gF.mo (fun x k h => Or.inl (kQ_F h))).tr (gM.tr o7)⟩
          · exact Or.inr ⟨M', pl, fun u => cL u _ ((cS u).trans (o1 u)), fun u => mL u _ ((mS u).trans (o2 u)), o3, o4, (gF.mo (fun x k h => Or.inl (Or.inl (kQ_F h)))).tr ((gM.mo (fun x k h => h.elim (fun z => Or.inl (Or.inl z)) (fun z => Or.inr z))).tr o5)⟩
        · refine Or.inr ⟨qj (fC M1 1 (tx_p n l b p')) (fM M1 1 (tx_p n l b p')), tx_p n l b p', fun u => cL u _ ?_, fun u => mE u _ (fun z => absurd z h0) (fun _ => ?_), rfl, rfl, (gF.mo (fun x k h => Or.inl (Or.inl (kQ_F h)))).tr ((qj_G fC_G fM_G).mo (fun x k h => Or.inl (Or.inr (by omega))))⟩
          · rw [qj_j]
            refine go_ald_4_1 rfl ?_
            refine go_c rfl ?_
            refine go_call2 rfl (t2 h59 u) (Nat.le_of_ble_eq_true rfl) (qb_qv rfl (by decide) (by decide)) ?_
            refine go_ifne rfl (fun e => ?_) (fun e => ?_)
            · refine go_c rfl ?_
              exact fin_i rfl rfl rfl
            · exact absurd rfl e
          · rw [qj_J]
            refine go_ald_4_0 rfl ?_
            refine go_call1 rfl (g2 u 0 (qj u (fM M1 1 (tx_p n l b p'))) (Or.inl rfl) (fun _ => s2 h59 u) (fun z => absurd z (by decide))) (Nat.le_of_ble_eq_true rfl) (qb_qv rfl (by decide) (by decide)) ?_
            refine go_ifne rfl (fun e => ?_) (fun e => ?_)
            · exact mF _ _ u rfl
            · exact absurd rfl e
      · subst hr
        refine Or.inr ⟨M1, pl, fun u => cE u _ (fun z => absurd z h0) (fun _ => ?_), fun u => mE u _ (fun z => absurd z h0) (fun _ => ?_), f3, f1.trans f2.symm, gF.mo (fun x k h => Or.inl h)⟩
        · refine go_ald_4_0 rfl ?_
          refine go_ald_4_1 rfl ?_
          refine go_ald_4_2 rfl ?_
          refine go_call3 rfl (g1 u) (Nat.le_of_ble_eq_true rfl) (qb_qv rfl (by decide) (by decide)) ?_
          refine go_ifeq rfl (fun e => ?_) (fun e => ?_)
          · refine go_c rfl ?_
            exact fin_i rfl rfl rfl
          · exact absurd rfl e
        · refine go_ald_4_0 rfl ?_
          refine go_call1 rfl (g2 u 0 (qj u M1) (Or.inl rfl) (fun z => absurd z (by decide)) (fun _ => ⟨rfl, rfl⟩)) (Nat.le_of_ble_eq_true rfl) (qb_qv rfl (by decide) (by decide)) ?_
          refine go_ifne rfl (fun e => ?_) (fun e => ?_)
          · exact mF _ _ u f4
          · exact absurd rfl e
