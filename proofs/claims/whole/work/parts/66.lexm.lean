/-! the reference's tape -/
theorem nI_dif {q i : Nat} : nI (q + i) - nI q = nI i := by rw [← nI_add, Int32.add_comm, Int32.add_sub_cancel]
theorem tx_l64 : ∀ k, k < 256 → (nI k).toInt64 = lN k := by decide +kernel
theorem tx_mw {a k : Nat} (hk : tx_a k = true) : (27 : Int64) * lN a + (nI k).toInt64 - 96 = lN (27 * a + (k - 96)) := by
  unfold tx_a at hk
  rw [Bool.and_eq_true, decide_eq_true_eq, decide_eq_true_eq] at hk
  rw [show (27 : Int64) = lN 27 from rfl, show (96 : Int64) = lN 96 from rfl, lN_mul, tx_l64 k (by omega), lN_add, show 27 * a + k = 27 * a + (k - 96) + 96 by omega, ← lN_add, Int64.add_sub_cancel]
theorem tx_mn {a k : Nat} (hk : tx_d k = true) : (10 : Int32) * nI a + nI k - 48 = nI (a * 10 + (k - 48)) := by
  unfold tx_d at hk
  rw [Bool.and_eq_true, decide_eq_true_eq, decide_eq_true_eq] at hk
  rw [show (10 : Int32) = nI 10 from rfl, show (48 : Int32) = nI 48 from rfl, pk_mul, nI_add, show 10 * a + k = 48 + (a * 10 + (k - 48)) by omega, nI_dif]
theorem sp_tapeAt (d : Nat) (s : qb_M) (c : Nat × Nat) {n : Nat} {b : Nat → Nat} (hn : n ≤ 940) (h3 : s.1 192 3 = nI n) (hb : ∀ k, k < n → s.1 193 k = nI (b k)) (p : Nat) (hp : p ≤ 940) : qe (d + 1) 173 [.ref 192, .int (nI p)] (qb_hp (s), 149, c) = some (some (.int (nI (if p < n then b p else 0))), (qb_hp (s), 149, c)) := by
  refine (en_173 d 192 (nI p) _).trans ?_
  refine go_ild_2_1 rfl ?_
  refine go_ald_2_0 rfl ?_
  refine go_geti rfl ⟨_, rfl, rfl, by decide, by decide⟩ ?_
  rw [h3]
  refine go_icge rfl (fun e => ?_) (fun e => ?_)
  · rw [if_neg (fun z => absurd e (nI_ge z (by omega)))]
    refine go_c rfl ?_
    exact fin_i rfl rfl rfl
  · have e : p < n := Nat.not_le.mp (fun z => e (nI_le z (by omega)))
    rw [if_pos e]
    refine go_ald_2_0 rfl ?_
    refine go_getr rfl ⟨_, rfl, rfl, by decide, by decide⟩ ?_
    refine go_ild_2_1 rfl ?_
    refine go_iald (j := p) rfl (⟨rfl, by decide, by decide, by decide⟩) (rfl) (by omega) ?_
    rw [hb p e]
    refine go_goto rfl ?_
    exact fin_i rfl rfl rfl
theorem sp_go (d : Nat) (c : Nat × Nat) {M : qb_M} {n l : Nat} {b : Nat → Nat} (hF : tx_G M n l b) {p : Nat} (hp : p ≤ n) (h5 : M.1 192 5 = nI p) : ∃ M', (∀ u, qe (d + 3) 170 [.ref 192] (qb_hp (qj u M), 149, c) = some (none, (qb_hp (qj u M'), 149, c))) ∧ tx_M M' n l b p ∧ qG (fun x k => x = 192 ∧ (5 ≤ k ∧ k ≤ 9 ∨ k = 12)) M M' := by
  obtain ⟨⟨q1, q2⟩, q3, q4⟩ := tx_q_ok (n := n) (b := b) hp
  unfold tx_M tx_k tx_p tx_e tx_l tx_n
  obtain ⟨q, hq⟩ : ∃ q, q = tx_q n b p := ⟨_, rfl⟩
  rw [← hq] at q1 q2 q3 q4 ⊢
  obtain ⟨⟨n9, l9, b9⟩, f1, f4, fb⟩ := id hF
  have skip : ∀ j i (N : qb_M), i + j = q → p ≤ i → N.1 192 5 = nI i → qG (fun x k => x = 192 ∧ k = 5) M N → ∃ N', (∀ u, qa_lm (qe (d + 2)) (qa_cd qc_170) (0, [.ref 192, .retAddr 0, .retAddr 0, .retAddr 0, .retAddr 0], [], (qb_hp (qj u N), 149, c)) = qa_lm (qe (d + 2)) (qa_cd qc_170) (52, [.ref 192, .retAddr 0, .retAddr 0, .retAddr 0, .retAddr 0], [], (qb_hp (qj u N'), 149, c))) ∧ N'.1 192 5 = nI q ∧ qG (fun x k => x = 192 ∧ k = 5) M N' := by
    intro j
    induction j with
    | zero =>
      intro i N hi hpi h5 hG
      have hi : i = q := by omega
      subst hi
      refine ⟨N, fun u => ?_, h5, hG⟩
      have h1 : N.1 192 3 = nI n := (hG.i (by omega)).trans f1
      refine go_ald_5_0 rfl ?_
      refine go_geti rfl ⟨_, rfl, rfl, by decide, by decide⟩ ?_
      refine go_ald_5_0 rfl ?_
      refine go_geti rfl ⟨_, rfl, rfl, by decide, by decide⟩ ?_
      rw [show (qj u N).1 192 5 = nI i from h5, show (qj u N).1 192 3 = nI n from h1]
      refine go_icge rfl (fun e => ?_) (fun e => ?_)
      · rfl
      · have e : ¬ n ≤ i := fun z => e (nI_le z (by omega))
        have hbt : (qj u N).1 193 i = nI (b i) := (hG.i (show ¬ (193 = 192 ∧ _) by omega)).trans (fb i (by omega))
        have hno := q4 (by omega)
        have b2 := b9 i (by omega)
        unfold tx_w at hno
        rw [Bool.or_eq_true, decide_eq_true_eq, decide_eq_true_eq] at hno
        refine go_ald_5_0 rfl ?_
        refine go_getr rfl ⟨_, rfl, rfl, by decide, by decide⟩ ?_
        refine go_ald_5_0 rfl ?_
        refine go_geti rfl ⟨_, rfl, rfl, by decide, by decide⟩ ?_
        refine go_iald (j := i) rfl (⟨rfl, by decide, by decide, by decide⟩) (h5) (by omega) ?_
        refine go_c rfl ?_
        rw [hbt]
        refine go_iceq rfl (fun e2 => ?_) (fun e2 => ?_)
        · exact absurd (Or.inl ((nI_eq (b := 32) (by omega) (by decide)).mp e2)) hno
        · refine go_ald_5_0 rfl ?_
          refine go_getr rfl ⟨_, rfl, rfl, by decide, by decide⟩ ?_
          refine go_ald_5_0 rfl ?_
          refine go_geti rfl ⟨_, rfl, rfl, by decide, by decide⟩ ?_
          refine go_iald (j := i) rfl (⟨rfl, by decide, by decide, by decide⟩) (h5) (by omega) ?_
          refine go_c rfl ?_
          rw [hbt]
          refine go_icne rfl (fun e3 => ?_) (fun e3 => ?_)
          · exact absurd (Or.inr ((nI_eq (b := 10) (by omega) (by decide)).mp e3)) hno
          · rfl
    | succ j ih =>
      intro i N hi hpi h5 hG
      have h1 : N.1 192 3 = nI n := (hG.i (by omega)).trans f1
      obtain ⟨N', z1, z2⟩ := ih (i + 1) (qb_ui N 192 5 (nI (i + 1))) (by omega) (by omega) qb_ui_1s (hG.ui ⟨rfl, rfl⟩)
      refine ⟨N', fun u => ?_, z2⟩
      have hbt : (qj u N).1 193 i = nI (b i) := (hG.i (show ¬ (193 = 192 ∧ _) by omega)).trans (fb i (by omega))
      have hw := q3 i hpi (by omega)
      have b2 := b9 i (by omega)
      unfold tx_w at hw
      rw [Bool.or_eq_true, decide_eq_true_eq, decide_eq_true_eq] at hw
      have yes : qa_lm (qe (d + 2)) (qa_cd qc_170) (39, [.ref 192, .retAddr 0, .retAddr 0, .retAddr 0, .retAddr 0], [], (qb_hp (qj u N), 149, c)) = qa_lm (qe (d + 2)) (qa_cd qc_170) (52, [.ref 192, .retAddr 0, .retAddr 0, .retAddr 0, .retAddr 0], [], (qb_hp (qj u N'), 149, c)) := by
        rw [← z1]
        refine go_ald_5_0 rfl ?_
        refine go_dup_ref rfl ?_
        refine go_geti rfl ⟨_, rfl, rfl, by decide, by decide⟩ ?_
        refine go_c rfl ?_
        rw [show (qj u N).1 192 5 = nI i from h5]
        refine go_iadd rfl ?_
        rw [nI_1]
        refine go_puti rfl ⟨_, rfl, rfl, by decide, by decide⟩ rfl rfl ?_
        rw [qj_UI (by decide)]
        refine go_goto rfl ?_
        rfl
      refine go_ald_5_0 rfl ?_
      refine go_geti rfl ⟨_, rfl, rfl, by decide, by decide⟩ ?_
      refine go_ald_5_0 rfl ?_
      refine go_geti rfl ⟨_, rfl, rfl, by decide, by decide⟩ ?_
      rw [show (qj u N).1 192 5 = nI i from h5, show (qj u N).1 192 3 = nI n from h1]
      refine go_icge rfl (fun e => ?_) (fun e => ?_)
      · exact absurd e (nI_ge (by omega) (by omega))
      · refine go_ald_5_0 rfl ?_
        refine go_getr rfl ⟨_, rfl, rfl, by decide, by decide⟩ ?_
        refine go_ald_5_0 rfl ?_
        refine go_geti rfl ⟨_, rfl, rfl, by decide, by decide⟩ ?_
        refine go_iald (j := i) rfl (⟨rfl, by decide, by decide, by decide⟩) (h5) (by omega) ?_
        refine go_c rfl ?_
        rw [hbt]
        refine go_iceq rfl (fun e2 => ?_) (fun e2 => ?_)
        · exact yes
        · refine go_ald_5_0 rfl ?_
          refine go_getr rfl ⟨_, rfl, rfl, by decide, by decide⟩ ?_
          refine go_ald_5_0 rfl ?_
          refine go_geti rfl ⟨_, rfl, rfl, by decide, by decide⟩ ?_
          refine go_iald (j := i) rfl (⟨rfl, by decide, by decide, by decide⟩) (h5) (by omega) ?_
          refine go_c rfl ?_
          rw [hbt]
          refine go_icne rfl (fun e3 => ?_) (fun e3 => ?_)
          · exact yes
          · exact absurd hw (fun z => z.elim (fun y => e2 (by rw [y]; rfl)) (fun y => e3 (by rw [y]; rfl)))
  obtain ⟨N, z1, z2, z3⟩ := skip (q - p) p M (by omega) (Nat.le_refl _) h5 qG.rf
  obtain ⟨K, hK⟩ : ∃ K, K = qb_ui N 192 6 (nI q) := ⟨_, rfl⟩
  have hGK : qG (fun x k => x = 192 ∧ (5 ≤ k ∧ k ≤ 9 ∨ k = 12)) M K := by rw [hK]; exact (z3.mo (fun x k h => by omega)).ui (by omega)
  have K5 : K.1 192 5 = nI q := by rw [hK]; exact (qb_ui_1n (Or.inr (by decide))).trans z2
  have K6 : K.1 192 6 = nI q := by rw [hK]; exact qb_ui_1s
  have K1 : K.1 192 3 = nI n := (hGK.i (by omega)).trans f1
  have K4 : K.1 192 4 = nI l := (hGK.i (by omega)).trans f4
  have en : ∀ u R, qa_lm (qe (d + 2)) (qa_cd qc_170) (60, [.ref 192, .retAddr 0, .retAddr 0, .retAddr 0, .retAddr 0], [], (qb_hp (qj u K), 149, c)) = R → qe (d + 3) 170 [.ref 192] (qb_hp (qj u M), 149, c) = R := fun u R hR => by
    refine (en_170 (d + 2) 192 _).trans ((z1 u).trans ?_)
    rw [hK] at hR
    refine go_ald_5_0 rfl ?_
    refine go_ald_5_0 rfl ?_
    refine go_geti rfl ⟨_, rfl, rfl, by decide, by decide⟩ ?_
    rw [show (qj u N).1 192 5 = nI q from z2]
    refine go_puti rfl ⟨_, rfl, rfl, by decide, by decide⟩ rfl rfl ?_
    rw [qj_UI (by decide)]
    exact hR
  by_cases hl : l < n ∧ l ≤ q
  · simp only [if_pos hl]
    refine ⟨qb_ui (qb_ui K 192 6 (nI l)) 192 7 1, fun u => en u _ ?_, ⟨K5, rfl, rfl, fun h => absurd h (by decide), fun h => absurd h (by decide), fun h => absurd h (by decide)⟩, (hGK.ui (by omega)).ui (by omega)⟩
    refine go_ald_5_0 rfl ?_
    refine go_geti rfl ⟨_, rfl, rfl, by decide, by decide⟩ ?_
    refine go_ald_5_0 rfl ?_
    refine go_geti rfl ⟨_, rfl, rfl, by decide, by decide⟩ ?_
    rw [show (qj u K).1 192 3 = nI n from K1, show (qj u K).1 192 4 = nI l from K4]
    refine go_icle rfl (fun e => ?_) (fun e => ?_)
    · exact absurd e (nI_ge hl.1 (by omega))
    · refine go_ald_5_0 rfl ?_
      refine go_geti rfl ⟨_, rfl, rfl, by decide, by decide⟩ ?_
      refine go_ald_5_0 rfl ?_
      refine go_geti rfl ⟨_, rfl, rfl, by decide, by decide⟩ ?_
      rw [show (qj u K).1 192 6 = nI q from K6, show (qj u K).1 192 4 = nI l from K4]
      refine go_iclt rfl (fun e2 => ?_) (fun e2 => ?_)
      · exact absurd ((nI_ltI (by omega) (by omega)).mp e2) (by omega)
      · refine go_ald_5_0 rfl ?_
        refine go_ald_5_0 rfl ?_
        refine go_geti rfl ⟨_, rfl, rfl, by decide, by decide⟩ ?_
        rw [show (qj u K).1 192 4 = nI l from K4]
        refine go_puti rfl ⟨_, rfl, rfl, by decide, by decide⟩ rfl rfl ?_
        rw [qj_UI (by decide)]
        refine go_ald_5_0 rfl ?_
        refine go_c rfl ?_
        refine go_puti rfl ⟨_, rfl, rfl, by decide, by decide⟩ rfl rfl ?_
        rw [qj_UI (by decide)]
        exact fin_v rfl rfl
  · simp only [if_neg hl]
    have en2 : ∀ u R, qa_lm (qe (d + 2)) (qa_cd qc_170) (96, [.ref 192, .retAddr 0, .retAddr 0, .retAddr 0, .retAddr 0], [], (qb_hp (qj u K), 149, c)) = R → qe (d + 3) 170 [.ref 192] (qb_hp (qj u M), 149, c) = R := fun u R hR => en u R (by
      refine go_ald_5_0 rfl ?_
      refine go_geti rfl ⟨_, rfl, rfl, by decide, by decide⟩ ?_
      refine go_ald_5_0 rfl ?_
      refine go_geti rfl ⟨_, rfl, rfl, by decide, by decide⟩ ?_
      rw [show (qj u K).1 192 3 = nI n from K1, show (qj u K).1 192 4 = nI l from K4]
      refine go_icle rfl (fun e => ?_) (fun e => ?_)
      · exact hR
      · have e : ¬ n ≤ l := fun z => e (nI_le z (by omega))
        refine go_ald_5_0 rfl ?_
        refine go_geti rfl ⟨_, rfl, rfl, by decide, by decide⟩ ?_
        refine go_ald_5_0 rfl ?_
        refine go_geti rfl ⟨_, rfl, rfl, by decide, by decide⟩ ?_
        rw [show (qj u K).1 192 6 = nI q from K6, show (qj u K).1 192 4 = nI l from K4]
        refine go_iclt rfl (fun e2 => ?_) (fun e2 => ?_)
        · exact hR
        · exact absurd ⟨by omega, Nat.not_lt.mp (fun z => e2 (nI_lt z (by omega)))⟩ hl)
    by_cases he : n ≤ q
    · simp only [if_pos he]
      refine ⟨qb_ui K 192 7 0, fun u => en2 u _ ?_, ⟨K5, K6, rfl, fun h => absurd h (by decide), fun h => absurd h (by decide), fun h => absurd h (by decide)⟩, hGK.ui (by omega)⟩
      refine go_ald_5_0 rfl ?_
      refine go_geti rfl ⟨_, rfl, rfl, by decide, by decide⟩ ?_
      refine go_ald_5_0 rfl ?_
      refine go_geti rfl ⟨_, rfl, rfl, by decide, by decide⟩ ?_
      rw [show (qj u K).1 192 3 = nI n from K1, show (qj u K).1 192 5 = nI q from K5]
      refine go_iclt rfl (fun e => ?_) (fun e => ?_)
      · exact absurd ((nI_ltI (by omega) (by omega)).mp e) (by omega)
      · refine go_ald_5_0 rfl ?_
        refine go_c rfl ?_
        refine go_puti rfl ⟨_, rfl, rfl, by decide, by decide⟩ rfl rfl ?_
        rw [qj_UI (by decide)]
        exact fin_v rfl rfl
    · simp only [if_neg he]
      have hqn : q < n := by omega
      have b2 := b9 q hqn
      have hbt : ∀ u, (qj u K).1 193 q = nI (b q) := fun u => (hGK.i (show ¬ (193 = 192 ∧ _) by omega)).trans (fb q hqn)
      have en3 : ∀ u R, ((tx_a (b q) || tx_d (b q)) = true → qa_lm (qe (d + 2)) (qa_cd qc_170) (198, [.ref 192, .int (nI (b q)), .retAddr 0, .retAddr 0, .retAddr 0], [], (qb_hp (qj u K), 149, c)) = R) → (¬ (tx_a (b q) || tx_d (b q)) = true → qa_lm (qe (d + 2)) (qa_cd qc_170) (137, [.ref 192, .int (nI (b q)), .retAddr 0, .retAddr 0, .retAddr 0], [], (qb_hp (qj u K), 149, c)) = R) → qe (d + 3) 170 [.ref 192] (qb_hp (qj u M), 149, c) = R := fun u R g1 g2 => en2 u R (by
        rw [Bool.or_eq_true] at g1 g2
        refine go_ald_5_0 rfl ?_
        refine go_geti rfl ⟨_, rfl, rfl, by decide, by decide⟩ ?_
        refine go_ald_5_0 rfl ?_
        refine go_geti rfl ⟨_, rfl, rfl, by decide, by decide⟩ ?_
        rw [show (qj u K).1 192 3 = nI n from K1, show (qj u K).1 192 5 = nI q from K5]
        refine go_iclt rfl (fun e => ?_) (fun e => ?_)
        · refine go_ald_5_0 rfl ?_
          refine go_getr rfl ⟨_, rfl, rfl, by decide, by decide⟩ ?_
          refine go_ald_5_0 rfl ?_
          refine go_geti rfl ⟨_, rfl, rfl, by decide, by decide⟩ ?_
          refine go_iald (j := q) rfl (⟨rfl, by decide, by decide, by decide⟩) (K5) (by omega) ?_
          rw [hbt]
          refine go_ist_5_1 rfl rfl ?_
          refine go_ild_5_1 rfl ?_
          refine go_call1 rfl (sp_isLetterM (d + 1) (b q) b2 _) (Nat.le_of_ble_eq_true rfl) rfl ?_
          refine go_ifne rfl (fun e2 => ?_) (fun e2 => ?_)
          · refine go_ild_5_1 rfl ?_
            refine go_call1 rfl (sp_isDigitM (d + 1) (b q) b2 _) (Nat.le_of_ble_eq_true rfl) rfl ?_
            refine go_ifne rfl (fun e3 => ?_) (fun e3 => ?_)
            · exact g2 (fun z => z.elim (qB_0.mp e2) (qB_0.mp e3))
            · exact g1 (Or.inr (Classical.byContradiction fun z => e3 (qB_f z)))
          · exact g1 (Or.inl (Classical.byContradiction fun z => e2 (qB_f z)))
        · exact absurd (nI_lt hqn (by omega)) e)
      by_cases hr : (tx_a (b q) || tx_d (b q)) = true
      · simp only [if_pos hr]
        obtain ⟨⟨r1, r2⟩, r3, r4⟩ := tx_r_ok (n := n) (b := b) (q := q) (by omega)
        obtain ⟨m, hm⟩ : ∃ m, m = tx_r n b q - q := ⟨_, rfl⟩
        have hrr : tx_r n b q = q + m := by omega
        rw [← hm]
        rw [hrr] at r1 r2 r3 r4 ⊢
        have hm1 : 1 ≤ m := Classical.byContradiction fun z => by
          have hm0 : m = 0 := by omega
          subst hm0
          exact r4 (by omega) hr
        have hrun : ∀ i, i < m → (tx_a (b (q + i)) || tx_d (b (q + i))) = true := fun i hi => r3 (q + i) (by omega) (by omega)
        obtain ⟨La, hLa⟩ : ∃ La, La = tx_a (b q) := ⟨_, rfl⟩
        have loop : ∀ j i (N : qb_M) l4, i + j = m → N.1 192 5 = nI (q + i) → (tx_A b q i = true → i ≤ 7 → N.2.1 192 12 = lN (qn_27 (tx_ls b q i))) → (tx_D b q i = true → i ≤ 3 → N.1 192 8 = nI (tx_nm b q i)) → qG (fun x k => x = 192 ∧ (k = 5 ∨ k = 8 ∨ k = 12)) K N → ∃ N' l4', (∀ u, qa_lm (qe (d + 2)) (qa_cd qc_170) (215, [.ref 192, .int (nI (b q)), .int (qB (La = true)), .int (qB ((if La then tx_A b q i else tx_D b q i) = true)), l4], [], (qb_hp (qj u N), 149, c)) = qa_lm (qe (d + 2)) (qa_cd qc_170) (350, [.ref 192, .int (nI (b q)), .int (qB (La = true)), .int (qB ((if La then tx_A b q m else tx_D b q m) = true)), l4'], [], (qb_hp (qj u N'), 149, c))) ∧ N'.1 192 5 = nI (q + m) ∧ (tx_A b q m = true → m ≤ 7 → N'.2.1 192 12 = lN (qn_27 (tx_ls b q m))) ∧ (tx_D b q m = true → m ≤ 3 → N'.1 192 8 = nI (tx_nm b q m)) ∧ qG (fun x k => x = 192 ∧ (k = 5 ∨ k = 8 ∨ k = 12)) K N' := by
          intro j
          induction j with
          | zero =>
            intro i N l4 hi h5 hA hD hG
            have hi : i = m := by omega
            subst hi
            refine ⟨N, l4, fun u => ?_, h5, hA, hD, hG⟩
            have ht := sp_tapeAt (d + 1) (qj u N) c (n := n) (b := b) n9 ((hG.i (show ¬ (192 = 192 ∧ (3 = 5 ∨ 3 = 8 ∨ 3 = 12)) by omega)).trans K1) (fun k hk => (hG.i (show ¬ (193 = 192 ∧ _) by omega)).trans ((hGK.i (show ¬ (193 = 192 ∧ _) by omega)).trans (fb k hk))) (q + i) (by omega)
            have hx : (if q + i < n then b (q + i) else 0) < 256 ∧ ¬ (tx_a (if q + i < n then b (q + i) else 0) || tx_d (if q + i < n then b (q + i) else 0)) = true := by
              by_cases e : q + i < n
              · rw [if_pos e]
                exact ⟨b9 _ e, r4 e⟩
              · rw [if_neg e]
                exact ⟨by decide, by decide⟩
            generalize (if q + i < n then b (q + i) else 0) = X at ht hx
            rw [Bool.or_eq_true] at hx
            refine go_ald_5_0 rfl ?_
            refine go_ald_5_0 rfl ?_
            refine go_geti rfl ⟨_, rfl, rfl, by decide, by decide⟩ ?_
            rw [show (qj u N).1 192 5 = nI (q + i) from h5]
            refine go_call2 rfl (ht) (Nat.le_of_ble_eq_true rfl) (qb_qv rfl (by decide) (by decide)) ?_
            refine go_call1 rfl (sp_isLetterM (d + 1) X hx.1 _) (Nat.le_of_ble_eq_true rfl) rfl ?_
            refine go_ifne rfl (fun e2 => ?_) (fun e2 => ?_)
            · refine go_ald_5_0 rfl ?_
              refine go_ald_5_0 rfl ?_
              refine go_geti rfl ⟨_, rfl, rfl, by decide, by decide⟩ ?_
              rw [show (qj u N).1 192 5 = nI (q + i) from h5]
              refine go_call2 rfl (ht) (Nat.le_of_ble_eq_true rfl) (qb_qv rfl (by decide) (by decide)) ?_
              refine go_call1 rfl (sp_isDigitM (d + 1) X hx.1 _) (Nat.le_of_ble_eq_true rfl) rfl ?_
              refine go_ifeq rfl (fun e3 => ?_) (fun e3 => ?_)
              · rfl
              · exact absurd (Or.inr (Classical.byContradiction fun z => e3 (qB_f z))) hx.2
            · exact absurd (Or.inl (Classical.byContradiction fun z => e2 (qB_f z))) hx.2
          | succ j ih =>
            intro i N l4 hi h5 hA hD hG
            have bi := b9 (q + i) (by omega)
            have hri := hrun i (by omega)
            have hG6 : ∀ u, (qj u N).1 192 6 = nI q := fun u => (hG.i (show ¬ (192 = 192 ∧ (6 = 5 ∨ 6 = 8 ∨ 6 = 12)) by omega)).trans K6
            have hbi : ∀ u, (qj u N).1 193 (q + i) = nI (b (q + i)) := fun u => (hG.i (show ¬ (193 = 192 ∧ _) by omega)).trans ((hGK.i (show ¬ (193 = 192 ∧ _) by omega)).trans (fb _ (by omega)))
            obtain ⟨w, hw⟩ : ∃ w, w = if i < 7 then (27 : Int64) * N.2.1 192 12 + (nI (b (q + i))).toInt64 - 96 else N.2.1 192 12 := ⟨_, rfl⟩
            obtain ⟨x, hx⟩ : ∃ x, x = if i < 3 then (10 : Int32) * N.1 192 8 + nI (b (q + i)) - 48 else N.1 192 8 := ⟨_, rfl⟩
            obtain ⟨N1, hN1⟩ : ∃ N1, N1 = if i < 7 then qb_ul N 192 12 w else N := ⟨_, rfl⟩
            obtain ⟨N2, hN2⟩ : ∃ N2, N2 = if i < 3 then qb_ui N1 192 8 x else N1 := ⟨_, rfl⟩
            have g1 : N1.1 = N.1 ∧ N1.2.1 192 12 = w ∧ qG (fun x k => x = 192 ∧ (k = 5 ∨ k = 8 ∨ k = 12)) K N1 := by
              by_cases e : i < 7
              · rw [if_pos e] at hN1
                rw [hN1]
                exact ⟨rfl, qb_ul_1s, hG.ul (by omega)⟩
              · rw [if_neg e] at hN1 hw
                rw [hN1]
                exact ⟨rfl, hw.symm, hG⟩
            have g2 : N2.1 192 5 = N.1 192 5 ∧ N2.1 192 8 = x ∧ N2.2.1 192 12 = w ∧ qG (fun x k => x = 192 ∧ (k = 5 ∨ k = 8 ∨ k = 12)) K N2 := by
              by_cases e : i < 3
              · rw [if_pos e] at hN2
                rw [hN2]
                exact ⟨(qb_ui_1n (Or.inr (by decide))).trans (by rw [g1.1]), qb_ui_1s, g1.2.1, g1.2.2.ui (by omega)⟩
              · rw [if_neg e] at hN2 hx
                rw [hN2]
                exact ⟨by rw [g1.1], by rw [g1.1]; exact hx.symm, g1.2.1, g1.2.2⟩
            obtain ⟨N', l4', y1, y2⟩ := ih (i + 1) (qb_ui N2 192 5 (nI (q + i + 1))) (.int (nI (b (q + i)))) (by omega) qb_ui_1s (fun hq h7 => by
              obtain ⟨a1, a2⟩ := tx_A_s hq
              show N2.2.1 192 12 = _
              rw [g2.2.2.1, hw, if_pos (by omega), hA a1 (by omega), tx_mw a2, tx_ls_s, qn_27_s]) (fun hq h7 => by
              obtain ⟨a1, a2⟩ := tx_D_s hq
              rw [qb_ui_1n (Or.inr (by decide)), g2.2.1, hx, if_pos (by omega), hD a1 (by omega), tx_mn a2]
              rfl) (g2.2.2.2.ui (by omega))
            refine ⟨N', l4', fun u => ?_, y2⟩
            rw [← y1]
            have ht := sp_tapeAt (d + 1) (qj u N) c (n := n) (b := b) n9 ((hG.i (show ¬ (192 = 192 ∧ (3 = 5 ∨ 3 = 8 ∨ 3 = 12)) by omega)).trans K1) (fun k hk => (hG.i (show ¬ (193 = 192 ∧ _) by omega)).trans ((hGK.i (show ¬ (193 = 192 ∧ _) by omega)).trans (fb k hk))) (q + i) (by omega)
            rw [if_pos (by omega)] at ht
            -- behind the loop's test
            have head : ∀ R, qa_lm (qe (d + 2)) (qa_cd qc_170) (243, [.ref 192, .int (nI (b q)), .int (qB (La = true)), .int (qB ((if La then tx_A b q i else tx_D b q i) = true)), l4], [], (qb_hp (qj u N), 149, c)) = R → qa_lm (qe (d + 2)) (qa_cd qc_170) (215, [.ref 192, .int (nI (b q)), .int (qB (La = true)), .int (qB ((if La then tx_A b q i else tx_D b q i) = true)), l4], [], (qb_hp (qj u N), 149, c)) = R := fun R hR => by
              rw [Bool.or_eq_true] at hri
              refine go_ald_5_0 rfl ?_
              refine go_ald_5_0 rfl ?_
              refine go_geti rfl ⟨_, rfl, rfl, by decide, by decide⟩ ?_
              rw [show (qj u N).1 192 5 = nI (q + i) from h5]
              refine go_call2 rfl (ht) (Nat.le_of_ble_eq_true rfl) (qb_qv rfl (by decide) (by decide)) ?_
              refine go_call1 rfl (sp_isLetterM (d + 1) _ bi _) (Nat.le_of_ble_eq_true rfl) rfl ?_
              refine go_ifne rfl (fun e2 => ?_) (fun e2 => ?_)
              · refine go_ald_5_0 rfl ?_
                refine go_ald_5_0 rfl ?_
                refine go_geti rfl ⟨_, rfl, rfl, by decide, by decide⟩ ?_
                rw [show (qj u N).1 192 5 = nI (q + i) from h5]
                refine go_call2 rfl (ht) (Nat.le_of_ble_eq_true rfl) (qb_qv rfl (by decide) (by decide)) ?_
                refine go_call1 rfl (sp_isDigitM (d + 1) _ bi _) (Nat.le_of_ble_eq_true rfl) rfl ?_
                refine go_ifeq rfl (fun e3 => ?_) (fun e3 => ?_)
                · exact absurd hri (fun z => z.elim (qB_0.mp e2) (qB_0.mp e3))
                · exact hR
              · exact hR
            -- what is good
            have hgd : (if La then tx_A b q (i + 1) else tx_D b q (i + 1)) = true ↔ (if La then tx_A b q i else tx_D b q i) = true ∧ tx_a (b (q + i)) = La := by
              cases hL : La
              · show tx_D b q (i + 1) = true ↔ tx_D b q i = true ∧ _
                constructor
                · intro h
                  obtain ⟨a1, a2⟩ := tx_D_s h
                  exact ⟨a1, eq_false_of_ne_true (fun z => tx_ad _ z a2)⟩
                · rintro ⟨a1, a2⟩
                  rw [a2, Bool.false_or] at hri
                  refine tx_D_iff.mpr (fun k hk => ?_)
                  by_cases e : k = i
                  · subst e; exact hri
                  · exact tx_D_iff.mp a1 k (by omega)
              · show tx_A b q (i + 1) = true ↔ tx_A b q i = true ∧ _
                constructor
                · intro h
                  exact tx_A_s h
                · rintro ⟨a1, a2⟩
                  refine tx_A_iff.mpr (fun k hk => ?_)
                  by_cases e : k = i
                  · subst e; exact a2
                  · exact tx_A_iff.mp a1 k (by omega)
            -- the rest of the body
            have tail : qa_lm (qe (d + 2)) (qa_cd qc_170) (273, [.ref 192, .int (nI (b q)), .int (qB (La = true)), .int (qB ((if La then tx_A b q (i + 1) else tx_D b q (i + 1)) = true)), .int (nI (b (q + i)))], [], (qb_hp (qj u N), 149, c)) = qa_lm (qe (d + 2)) (qa_cd qc_170) (215, [.ref 192, .int (nI (b q)), .int (qB (La = true)), .int (qB ((if La then tx_A b q (i + 1) else tx_D b q (i + 1)) = true)), .int (nI (b (q + i)))], [], (qb_hp (qj u (qb_ui N2 192 5 (nI (q + i + 1)))), 149, c)) := by
              have t3 : qa_lm (qe (d + 2)) (qa_cd qc_170) (337, [.ref 192, .int (nI (b q)), .int (qB (La = true)), .int (qB ((if La then tx_A b q (i + 1) else tx_D b q (i + 1)) = true)), .int (nI (b (q + i)))], [], (qb_hp (qj u N2), 149, c)) = qa_lm (qe (d + 2)) (qa_cd qc_170) (215, [.ref 192, .int (nI (b q)), .int (qB (La = true)), .int (qB ((if La then tx_A b q (i + 1) else tx_D b q (i + 1)) = true)), .int (nI (b (q + i)))], [], (qb_hp (qj u (qb_ui N2 192 5 (nI (q + i + 1)))), 149, c)) := by
                refine go_ald_5_0 rfl ?_
                refine go_dup_ref rfl ?_
                refine go_geti rfl ⟨_, rfl, rfl, by decide, by decide⟩ ?_
                refine go_c rfl ?_
                rw [show (qj u N2).1 192 5 = nI (q + i) from g2.1.trans h5]
                refine go_iadd rfl ?_
                rw [nI_1]
                refine go_puti rfl ⟨_, rfl, rfl, by decide, by decide⟩ rfl rfl ?_
                rw [qj_UI (by decide)]
                refine go_goto rfl ?_
                rfl
              have t2 : qa_lm (qe (d + 2)) (qa_cd qc_170) (307, [.ref 192, .int (nI (b q)), .int (qB (La = true)), .int (qB ((if La then tx_A b q (i + 1) else tx_D b q (i + 1)) = true)), .int (nI (b (q + i)))], [], (qb_hp (qj u N1), 149, c)) = qa_lm (qe (d + 2)) (qa_cd qc_170) (337, [.ref 192, .int (nI (b q)), .int (qB (La = true)), .int (qB ((if La then tx_A b q (i + 1) else tx_D b q (i + 1)) = true)), .int (nI (b (q + i)))], [], (qb_hp (qj u N2), 149, c)) := by
                have a5 : (qj u N1).1 192 5 = nI (q + i) := by
                  show N1.1 192 5 = _
                  rw [g1.1]; exact h5
                have a6 : (qj u N1).1 192 6 = nI q := by
                  show N1.1 192 6 = _
                  rw [g1.1]; exact hG6 u
                have a8 : (qj u N1).1 192 8 = N.1 192 8 := by
                  show N1.1 192 8 = _
                  rw [g1.1]
                refine go_ald_5_0 rfl ?_
                refine go_geti rfl ⟨_, rfl, rfl, by decide, by decide⟩ ?_
                refine go_ald_5_0 rfl ?_
                refine go_geti rfl ⟨_, rfl, rfl, by decide, by decide⟩ ?_
                refine go_isub rfl ?_
                refine go_c rfl ?_
                rw [a5, a6, nI_dif]
                by_cases e : i < 3
                · rw [if_pos e] at hN2 hx
                  refine go_icge rfl (fun e2 => ?_) (fun e2 => ?_)
                  · exact absurd e2 (nI_ge (b := 3) e (by decide))
                  · refine go_ald_5_0 rfl ?_
                    refine go_c rfl ?_
                    refine go_ald_5_0 rfl ?_
                    refine go_geti rfl ⟨_, rfl, rfl, by decide, by decide⟩ ?_
                    refine go_imul rfl ?_
                    refine go_ild_5_4 rfl ?_
                    refine go_iadd rfl ?_
                    refine go_c rfl ?_
                    refine go_isub rfl ?_
                    rw [a8, ← hx]
                    refine go_puti rfl ⟨_, rfl, rfl, by decide, by decide⟩ rfl rfl ?_
                    rw [qj_UI (by decide), ← hN2]
                · rw [if_neg e] at hN2
                  refine go_icge rfl (fun e2 => ?_) (fun e2 => ?_)
                  · rw [hN2]
                  · exact absurd (nI_le (a := 3) (by omega) (by omega)) e2
              have t1 : qa_lm (qe (d + 2)) (qa_cd qc_170) (273, [.ref 192, .int (nI (b q)), .int (qB (La = true)), .int (qB ((if La then tx_A b q (i + 1) else tx_D b q (i + 1)) = true)), .int (nI (b (q + i)))], [], (qb_hp (qj u N), 149, c)) = qa_lm (qe (d + 2)) (qa_cd qc_170) (307, [.ref 192, .int (nI (b q)), .int (qB (La = true)), .int (qB ((if La then tx_A b q (i + 1) else tx_D b q (i + 1)) = true)), .int (nI (b (q + i)))], [], (qb_hp (qj u N1), 149, c)) := by
                refine go_ald_5_0 rfl ?_
                refine go_geti rfl ⟨_, rfl, rfl, by decide, by decide⟩ ?_
                refine go_ald_5_0 rfl ?_
                refine go_geti rfl ⟨_, rfl, rfl, by decide, by decide⟩ ?_
                refine go_isub rfl ?_
                refine go_c rfl ?_
                rw [show (qj u N).1 192 5 = nI (q + i) from h5, hG6, nI_dif]
                by_cases e : i < 7
                · rw [if_pos e] at hN1 hw
                  refine go_icge rfl (fun e2 => ?_) (fun e2 => ?_)
                  · exact absurd e2 (nI_ge (b := 7) e (by decide))
                  · refine go_ald_5_0 rfl ?_
                    refine go_c rfl ?_
                    refine go_ald_5_0 rfl ?_
                    refine go_getl rfl ⟨_, rfl, rfl, by decide, by decide⟩ ?_
                    refine go_lmul rfl ?_
                    refine go_ild_5_4 rfl ?_
                    refine go_i2l rfl ?_
                    refine go_ladd rfl ?_
                    refine go_c rfl ?_
                    refine go_lsub rfl ?_
                    rw [show (27 : Int64) * (qj u N).2.1 192 12 + (nI (b (q + i))).toInt64 - 96 = w from hw.symm]
                    refine go_putl rfl ⟨_, rfl, rfl, by decide, by decide⟩ ?_
                    rw [qj_UL (by decide), ← hN1]
                · rw [if_neg e] at hN1
                  refine go_icge rfl (fun e2 => ?_) (fun e2 => ?_)
                  · rw [hN1]
                  · exact absurd (nI_le (a := 7) (by omega) (by omega)) e2
              exact t1.trans (t2.trans t3)
            refine head _ ?_
            have no : ¬ (if La then tx_A b q (i + 1) else tx_D b q (i + 1)) = true → qa_lm (qe (d + 2)) (qa_cd qc_170) (271, [.ref 192, .int (nI (b q)), .int (qB (La = true)), .int (qB ((if La then tx_A b q i else tx_D b q i) = true)), .int (nI (b (q + i)))], [], (qb_hp (qj u N), 149, c)) = qa_lm (qe (d + 2)) (qa_cd qc_170) (215, [.ref 192, .int (nI (b q)), .int (qB (La = true)), .int (qB ((if La then tx_A b q (i + 1) else tx_D b q (i + 1)) = true)), .int (nI (b (q + i)))], [], (qb_hp (qj u (qb_ui N2 192 5 (nI (q + i + 1)))), 149, c)) := fun h => by
              rw [qB_f h] at tail ⊢
              refine go_c rfl ?_
              refine go_ist_5_3 rfl rfl ?_
              exact tail
            refine go_ald_5_0 rfl ?_
            refine go_getr rfl ⟨_, rfl, rfl, by decide, by decide⟩ ?_
            refine go_ald_5_0 rfl ?_
            refine go_geti rfl ⟨_, rfl, rfl, by decide, by decide⟩ ?_
            refine go_iald (j := q + i) rfl (⟨rfl, by decide, by decide, by decide⟩) (h5) (by omega) ?_
            rw [hbi]
            refine go_ist_5_4 rfl rfl ?_
            refine go_ild_5_3 rfl ?_
            refine go_ifeq rfl (fun e => ?_) (fun e => ?_)
            · exact no (fun z => qB_0.mp e (hgd.mp z).1)
            · have e : (if La then tx_A b q i else tx_D b q i) = true := Classical.byContradiction fun z => e (qB_f z)
              refine go_ild_5_4 rfl ?_
              refine go_call1 rfl (sp_isLetterM (d + 1) _ bi _) (Nat.le_of_ble_eq_true rfl) rfl ?_
              refine go_ild_5_2 rfl ?_
              refine go_icne rfl (fun e2 => ?_) (fun e2 => ?_)
              · have hy : (if La then tx_A b q (i + 1) else tx_D b q (i + 1)) = true := hgd.mpr ⟨e, by
                  revert e2
                  cases tx_a (b (q + i)) <;> cases La <;> decide⟩
                rw [qB_t hy] at tail ⊢
                refine go_c rfl ?_
                refine go_goto rfl ?_
                refine go_ist_5_3 rfl rfl ?_
                exact tail
              · exact no (fun z => e2 (by rw [(hgd.mp z).2]))
        obtain ⟨N', l4', y1, y2, y3, y4, y5⟩ := loop m 0 (qb_ui (qb_ul K 192 12 0) 192 8 0) (.retAddr 0) (by omega) K5 (fun _ _ => rfl) (fun _ _ => rfl) ((qG.rf.ul (by omega)).ui (by omega))
        have hst : (if La then tx_A b q 0 else tx_D b q 0) = true := by cases La <;> rfl
        rw [qB_t hst] at y1
        have en4 : ∀ u R, qa_lm (qe (d + 2)) (qa_cd qc_170) (350, [.ref 192, .int (nI (b q)), .int (qB (La = true)), .int (qB ((if La then tx_A b q m else tx_D b q m) = true)), l4'], [], (qb_hp (qj u N'), 149, c)) = R → qe (d + 3) 170 [.ref 192] (qb_hp (qj u M), 149, c) = R := fun u R hR => en3 u R (fun _ => by
          refine go_ild_5_1 rfl ?_
          refine go_call1 rfl (sp_isLetterM (d + 1) _ b2 _) (Nat.le_of_ble_eq_true rfl) rfl ?_
          rw [← hLa]
          refine go_ist_5_2 rfl rfl ?_
          refine go_c rfl ?_
          refine go_ist_5_3 rfl rfl ?_
          refine go_ald_5_0 rfl ?_
          refine go_c rfl ?_
          refine go_putl rfl ⟨_, rfl, rfl, by decide, by decide⟩ ?_
          rw [qj_UL (by decide)]
          refine go_ald_5_0 rfl ?_
          refine go_c rfl ?_
          refine go_puti rfl ⟨_, rfl, rfl, by decide, by decide⟩ rfl rfl ?_
          rw [qj_UI (by decide)]
          exact (y1 u).trans hR) (fun z => absurd hr z)
        obtain ⟨k, hk⟩ : ∃ k : Nat, k = if tx_A b q m = true ∧ m ≤ 7 then 2 else if tx_D b q m = true ∧ m ≤ 3 then 3 else 1 := ⟨_, rfl⟩
        rw [← hk]
        have hk4 : k < 4 := by rw [hk]; split <;> (try split) <;> omega
        have hnA : tx_a (b q) = true → ¬ tx_D b q m = true := fun h z => tx_ad _ h (tx_D_iff.mp z 0 (by omega))
        have hnD : ¬ tx_a (b q) = true → ¬ tx_A b q m = true := fun h z => h (tx_A_iff.mp z 0 (by omega))
        have hGN : qG (fun x k => x = 192 ∧ (5 ≤ k ∧ k ≤ 9 ∨ k = 12)) M N' := hGK.tr (y5.mo (fun x k h => by omega))
        have N6 : N'.1 192 6 = nI q := (y5.i (by omega)).trans K6
        refine ⟨qb_ui N' 192 7 (nI k), fun u => en4 u _ ?_, ⟨(qb_ui_1n (Or.inr (by decide))).trans y2, (qb_ui_1n (Or.inr (by decide))).trans N6, by rw [if_neg (by omega)]; exact qb_ui_1s, fun h => absurd h (by omega), fun h => ?_, fun h => ?_⟩, hGN.ui (by omega)⟩
        · have h56 : ∀ u, (qj u N').1 192 5 - (qj u N').1 192 6 = nI m := fun u => by
            rw [show (qj u N').1 192 5 = nI (q + m) from y2, show (qj u N').1 192 6 = nI q from N6, nI_dif]
          refine go_ald_5_0 rfl ?_
          refine go_ild_5_3 rfl ?_
          refine go_ifeq rfl (fun e => ?_) (fun e => ?_)
          · have e := qB_0.mp e
            have hk1 : k = 1 := by
              rw [hk]
              cases hL : La
              · rw [hL] at e hLa
                have e : ¬ tx_D b q m = true := e
                rw [if_neg (fun z => hnD (by rw [← hLa]; decide) z.1), if_neg (fun z => e z.1)]
              · rw [hL] at e hLa
                have e : ¬ tx_A b q m = true := e
                rw [if_neg (fun z => e z.1), if_neg (fun z => hnA hLa.symm z.1)]
            refine go_c rfl ?_
            refine go_goto rfl ?_
            rw [hk1]
            refine go_puti rfl ⟨_, rfl, rfl, by decide, by decide⟩ rfl rfl ?_
            rw [qj_UI (by decide)]
            exact fin_v rfl rfl
          · have e : (if La then tx_A b q m else tx_D b q m) = true := Classical.byContradiction fun z => e (qB_f z)
            refine go_ald_5_0 rfl ?_
            refine go_geti rfl ⟨_, rfl, rfl, by decide, by decide⟩ ?_
            refine go_ald_5_0 rfl ?_
            refine go_geti rfl ⟨_, rfl, rfl, by decide, by decide⟩ ?_
            refine go_isub rfl ?_
            rw [h56]
            cases hL : La
            · rw [hL] at e hLa
              have e : tx_D b q m = true := e
              have hnA' := hnD (by rw [← hLa]; decide)
              refine go_ild_5_2 rfl ?_
              refine go_ifeq rfl (fun e2 => ?_) (fun e2 => ?_)
              · refine go_c rfl ?_
                refine go_icle rfl (fun e3 => ?_) (fun e3 => ?_)
                · have e3 := (nI_leI (b := 3) (by omega) (by decide)).mp e3
                  have hk1 : k = 3 := by rw [hk, if_neg (fun z => hnA' z.1), if_pos ⟨e, e3⟩]
                  refine go_ild_5_2 rfl ?_
                  refine go_ifeq rfl (fun e4 => ?_) (fun e4 => ?_)
                  · refine go_c rfl ?_
                    rw [hk1]
                    refine go_puti rfl ⟨_, rfl, rfl, by decide, by decide⟩ rfl rfl ?_
                    rw [qj_UI (by decide)]
                    exact fin_v rfl rfl
                  · exact absurd rfl e4
                · have e3 : ¬ m ≤ 3 := fun z => e3 (nI_le (b := 3) z (by decide))
                  have hk1 : k = 1 := by rw [hk, if_neg (fun z => hnA' z.1), if_neg (fun z => e3 z.2)]
                  refine go_c rfl ?_
                  refine go_goto rfl ?_
                  rw [hk1]
                  refine go_puti rfl ⟨_, rfl, rfl, by decide, by decide⟩ rfl rfl ?_
                  rw [qj_UI (by decide)]
                  exact fin_v rfl rfl
              · exact absurd rfl e2
            · rw [hL] at e hLa
              have e : tx_A b q m = true := e
              have hnD' := hnA hLa.symm
              refine go_ild_5_2 rfl ?_
              refine go_ifeq rfl (fun e2 => ?_) (fun e2 => ?_)
              · exact absurd e2 (by decide)
              · refine go_c rfl ?_
                refine go_goto rfl ?_
                refine go_icle rfl (fun e3 => ?_) (fun e3 => ?_)
                · have e3 := (nI_leI (b := 7) (by omega) (by decide)).mp e3
                  have hk1 : k = 2 := by rw [hk, if_pos ⟨e, e3⟩]
                  refine go_ild_5_2 rfl ?_
                  refine go_ifeq rfl (fun e4 => ?_) (fun e4 => ?_)
                  · exact absurd e4 (by decide)
                  · refine go_c rfl ?_
                    refine go_goto rfl ?_
                    rw [hk1]
                    refine go_puti rfl ⟨_, rfl, rfl, by decide, by decide⟩ rfl rfl ?_
                    rw [qj_UI (by decide)]
                    exact fin_v rfl rfl
                · have e3 : ¬ m ≤ 7 := fun z => e3 (nI_le (b := 7) z (by decide))
                  have hk1 : k = 1 := by rw [hk, if_neg (fun z => e3 z.2), if_neg (fun z => hnD' z.1)]
                  refine go_c rfl ?_
                  refine go_goto rfl ?_
                  rw [hk1]
                  refine go_puti rfl ⟨_, rfl, rfl, by decide, by decide⟩ rfl rfl ?_
                  rw [qj_UI (by decide)]
                  exact fin_v rfl rfl
        · have hA : tx_A b q m = true ∧ m ≤ 7 := Classical.byContradiction fun z => by
            rw [hk, if_neg z] at h
            split at h <;> omega
          exact y3 hA.1 hA.2
        · have hD : tx_D b q m = true ∧ m ≤ 3 := Classical.byContradiction fun z => by
            rw [hk] at h
            by_cases z2 : tx_A b q m = true ∧ m ≤ 7
            · rw [if_pos z2] at h; omega
            · rw [if_neg z2, if_neg z] at h; omega
          exact (qb_ui_1n (Or.inr (by decide))).trans (y4 hD.1 hD.2)
      · simp only [if_neg hr]
        have eq : ∀ j : Nat, j < 256 → (nI (b q) = nI j ↔ b q = j) := fun j hj => nI_eq (by omega) (by omega)
        have K7 : ∀ v : Nat, qG (fun x k => x = 192 ∧ (5 ≤ k ∧ k ≤ 9 ∨ k = 12)) M (qb_ui (qb_ui (qb_ui K 192 7 (nI v)) 192 9 (nI (b q))) 192 5 (nI (q + 1))) := fun v => ((hGK.ui (by omega)).ui (by omega)).ui (by omega)
        by_cases hs : tx_s (b q) = true
        · have hbq : b q = 59 ∨ b q = 60 ∨ b q = 61 ∨ b q = 62 ∨ b q = 40 ∨ b q = 41 := by
            unfold tx_s at hs
            simp only [Bool.or_eq_true, decide_eq_true_eq] at hs
            omega
          simp only [if_pos hs]
          refine ⟨qb_ui (qb_ui (qb_ui K 192 7 (nI 4)) 192 9 (nI (b q))) 192 5 (nI (q + 1)), fun u => en3 u _ (fun z => absurd z hr) (fun _ => ?_), ⟨qb_ui_1s, K6, by rw [if_pos (by omega)]; rfl, fun _ => rfl, fun h => absurd h (by omega), fun h => absurd h (by omega)⟩, K7 4⟩
          have yes : qa_lm (qe (d + 2)) (qa_cd qc_170) (174, [.ref 192, .int (nI (b q)), .retAddr 0, .retAddr 0, .retAddr 0], [.ref 192], (qb_hp (qj u K), 149, c)) = some (none, (qb_hp (qj u (qb_ui (qb_ui (qb_ui K 192 7 (nI 4)) 192 9 (nI (b q))) 192 5 (nI (q + 1)))), 149, c)) := by
            refine go_c rfl ?_
            refine go_goto rfl ?_
            refine go_puti rfl ⟨_, rfl, rfl, by decide, by decide⟩ rfl rfl ?_
            rw [qj_UI (by decide)]
            refine go_ald_5_0 rfl ?_
            refine go_ild_5_1 rfl ?_
            refine go_puti rfl ⟨_, rfl, rfl, by decide, by decide⟩ rfl rfl ?_
            rw [qj_UI (by decide)]
            refine go_ald_5_0 rfl ?_
            refine go_dup_ref rfl ?_
            refine go_geti rfl ⟨_, rfl, rfl, by decide, by decide⟩ ?_
            refine go_c rfl ?_
            rw [show (qj u (qb_ui (qb_ui K 192 7 4) 192 9 (nI (b q)))).1 192 5 = nI q from K5]
            refine go_iadd rfl ?_
            rw [nI_1]
            refine go_puti rfl ⟨_, rfl, rfl, by decide, by decide⟩ rfl rfl ?_
            rw [qj_UI (by decide)]
            exact fin_v rfl rfl
          refine go_ald_5_0 rfl ?_
          refine go_ild_5_1 rfl ?_
          refine go_c rfl ?_
          refine go_iceq rfl (fun e0 => ?_) (fun e0 => ?_)
          · exact yes
          · refine go_ild_5_1 rfl ?_
            refine go_c rfl ?_
            refine go_iceq rfl (fun e1 => ?_) (fun e1 => ?_)
            · exact yes
            · refine go_ild_5_1 rfl ?_
              refine go_c rfl ?_
              refine go_iceq rfl (fun e2 => ?_) (fun e2 => ?_)
              · exact yes
              · refine go_ild_5_1 rfl ?_
                refine go_c rfl ?_
                refine go_iceq rfl (fun e3 => ?_) (fun e3 => ?_)
                · exact yes
                · refine go_ild_5_1 rfl ?_
                  refine go_c rfl ?_
                  refine go_iceq rfl (fun e4 => ?_) (fun e4 => ?_)
                  · exact yes
                  · refine go_ild_5_1 rfl ?_
                    refine go_c rfl ?_
                    refine go_icne rfl (fun e5 => ?_) (fun e5 => ?_)
                    · exact yes
                    · rcases hbq with z | z | z | z | z | z
                      · exact absurd ((eq 59 (by decide)).mpr z) e0
                      · exact absurd ((eq 60 (by decide)).mpr z) e1
                      · exact absurd ((eq 61 (by decide)).mpr z) e2
                      · exact absurd ((eq 62 (by decide)).mpr z) e3
                      · exact absurd ((eq 40 (by decide)).mpr z) e4
                      · exact absurd ((eq 41 (by decide)).mpr z) e5
        · have hbq : ∀ j : Nat, j < 256 → tx_s j = true → ¬ nI (b q) = nI j := fun j hj h z => hs (by rw [(eq j hj).mp z]; exact h)
          simp only [if_neg hs]
          refine ⟨qb_ui (qb_ui (qb_ui K 192 7 (nI 1)) 192 9 (nI (b q))) 192 5 (nI (q + 1)), fun u => en3 u _ (fun z => absurd z hr) (fun _ => ?_), ⟨qb_ui_1s, K6, by rw [if_neg (by decide)]; rfl, fun h => absurd h (by decide), fun h => absurd h (by decide), fun h => absurd h (by decide)⟩, K7 1⟩
          refine go_ald_5_0 rfl ?_
          refine go_ild_5_1 rfl ?_
          refine go_c rfl ?_
          refine go_iceq rfl (fun e0 => ?_) (fun e0 => ?_)
          · exact absurd e0 (hbq 59 (by decide) rfl)
          · refine go_ild_5_1 rfl ?_
            refine go_c rfl ?_
            refine go_iceq rfl (fun e1 => ?_) (fun e1 => ?_)
            · exact absurd e1 (hbq 60 (by decide) rfl)
            · refine go_ild_5_1 rfl ?_
              refine go_c rfl ?_
              refine go_iceq rfl (fun e2 => ?_) (fun e2 => ?_)
              · exact absurd e2 (hbq 61 (by decide) rfl)
              · refine go_ild_5_1 rfl ?_
                refine go_c rfl ?_
                refine go_iceq rfl (fun e3 => ?_) (fun e3 => ?_)
                · exact absurd e3 (hbq 62 (by decide) rfl)
                · refine go_ild_5_1 rfl ?_
                  refine go_c rfl ?_
                  refine go_iceq rfl (fun e4 => ?_) (fun e4 => ?_)
                  · exact absurd e4 (hbq 40 (by decide) rfl)
                  · refine go_ild_5_1 rfl ?_
                    refine go_c rfl ?_
                    refine go_icne rfl (fun e5 => ?_) (fun e5 => ?_)
                    · exact absurd e5 (hbq 41 (by decide) rfl)
                    · refine go_c rfl ?_
                      refine go_puti rfl ⟨_, rfl, rfl, by decide, by decide⟩ rfl rfl ?_
                      rw [qj_UI (by decide)]
                      refine go_ald_5_0 rfl ?_
                      refine go_ild_5_1 rfl ?_
                      refine go_puti rfl ⟨_, rfl, rfl, by decide, by decide⟩ rfl rfl ?_
                      rw [qj_UI (by decide)]
                      refine go_ald_5_0 rfl ?_
                      refine go_dup_ref rfl ?_
                      refine go_geti rfl ⟨_, rfl, rfl, by decide, by decide⟩ ?_
                      refine go_c rfl ?_
                      rw [show (qj u (qb_ui (qb_ui K 192 7 1) 192 9 (nI (b q)))).1 192 5 = nI q from K5]
                      refine go_iadd rfl ?_
                      rw [nI_1]
                      refine go_puti rfl ⟨_, rfl, rfl, by decide, by decide⟩ rfl rfl ?_
                      rw [qj_UI (by decide)]
                      exact fin_v rfl rfl
