/-! the component's tape -/
theorem fa_cnt_all {p : Nat → Bool} : ∀ {n : Nat}, (∀ k, k < n → p k = true) → fa_cnt p n = n
  | 0, _ => rfl
  | n + 1, h => by rw [fa_cnt_yes (h n (by omega)), fa_cnt_all (fun k hk => h k (by omega))]
theorem fa_cnt_0 {p : Nat → Bool} {n : Nat} (h : ∀ k, k < n → ¬ p k = true) : fa_cnt p n = 0 := by
  have := fa_cnt_skip (p := p) (a := 0) (n := n) (fun k _ hk => h k (by omega))
  rw [Nat.zero_add] at this
  exact this
theorem sp_withL (d : Nat) (x : Int64) (k : Int32) (h : qa_H) : qe (d + 1) 24 [.long x, .int k] h = some (some (.long (x * 32 + (k - 97 + 1).toInt64)), h) := by
  refine (en_24 d x k h).trans ?_
  refine go_lld_3_0 rfl ?_
  refine go_c rfl ?_
  refine go_lmul rfl ?_
  refine go_ild_3_2 rfl ?_
  refine go_c rfl ?_
  refine go_isub rfl ?_
  refine go_c rfl ?_
  refine go_iadd rfl ?_
  refine go_i2l rfl ?_
  refine go_ladd rfl ?_
  exact fin_l rfl rfl
theorem tx_lw {a k : Nat} (hk : tx_a k = true) : lN a * 32 + (nI k - 97 + 1).toInt64 = lN (32 * a + (k - 96)) := by
  unfold tx_a at hk
  rw [Bool.and_eq_true, decide_eq_true_eq, decide_eq_true_eq] at hk
  rw [show (32 : Int64) = lN 32 from rfl, lN_mul, tx_lc k (by omega) hk.1, lN_add, Nat.mul_comm]
theorem tx_dc : ∀ k, k < 58 → 48 ≤ k → nI k - 48 = nI (k - 48) := by decide +kernel
theorem tx_nw {a k : Nat} (hk : tx_d k = true) : nI a * 10 + (nI k - 48) = nI (a * 10 + (k - 48)) := by
  unfold tx_d at hk
  rw [Bool.and_eq_true, decide_eq_true_eq, decide_eq_true_eq] at hk
  rw [show (10 : Int32) = nI 10 from rfl, pk_mul, tx_dc k (by omega) hk.1, nI_add]
theorem tx_A_s {b : Nat → Nat} {q m : Nat} (h : tx_A b q (m + 1) = true) : tx_A b q m = true ∧ tx_a (b (q + m)) = true := by
  rw [tx_A_iff] at h ⊢
  exact ⟨fun i hi => h i (by omega), h m (by omega)⟩
theorem tx_D_s {b : Nat → Nat} {q m : Nat} (h : tx_D b q (m + 1) = true) : tx_D b q m = true ∧ tx_d (b (q + m)) = true := by
  rw [tx_D_iff] at h ⊢
  exact ⟨fun i hi => h i (by omega), h m (by omega)⟩
theorem sp_readRun (d : Nat) (c : Nat × Nat) {M : qb_M} {n l : Nat} {b : Nat → Nat} (hF : tx_F M n l b) {q : Nat} (hq : q < n) (h5 : M.1 65 5 = nI q) : ∃ M', (∀ u, qe (d + 2) 23 [.ref 65] (qb_hp (qj M u), 149, c) = some (none, (qb_hp (qj M' u), 149, c))) ∧ M'.1 65 5 = nI (tx_r n b q) ∧ (if tx_A b q (tx_r n b q - q) = true ∧ tx_r n b q - q ≤ 7 then M'.1 65 7 = 2 ∧ M'.2.1 65 9 = lN (qn_32 (tx_ls b q (tx_r n b q - q))) ∧ M'.2.2 65 10 = tx_wd (tx_ls b q (tx_r n b q - q)) else if tx_D b q (tx_r n b q - q) = true ∧ tx_r n b q - q ≤ 3 then M'.1 65 7 = 3 ∧ M'.1 65 8 = nI (tx_nm b q (tx_r n b q - q)) ∧ M'.2.2 65 10 = M.2.2 65 10 else M'.1 65 7 = 1 ∧ M'.2.2 65 10 = M.2.2 65 10) ∧ qG (fun x k => x = 65 ∧ (k = 5 ∨ 7 ≤ k ∧ k ≤ 10)) M M' := by
  obtain ⟨⟨r1, r2⟩, r3, r4⟩ := tx_r_ok (n := n) (b := b) (q := q) (by omega)
  obtain ⟨m, hm⟩ : ∃ m, m = tx_r n b q - q := ⟨_, rfl⟩
  have hr : tx_r n b q = q + m := by omega
  rw [← hm]
  rw [hr] at r1 r2 r3 r4 ⊢
  obtain ⟨⟨n9, l9, b9⟩, f1, f4, fb⟩ := id hF
  have hrun : ∀ i, i < m → (tx_a (b (q + i)) || tx_d (b (q + i))) = true := fun i hi => r3 (q + i) (by omega) (by omega)
  have loop : ∀ j i (N : qb_M), i + j = m → N.1 65 5 = nI (q + i) → (tx_A b q i = true → N.2.1 65 9 = lN (qn_32 (tx_ls b q i))) → (tx_D b q i = true → N.1 65 8 = nI (tx_nm b q i)) → qG (fun x k => x = 65 ∧ (k = 5 ∨ 8 ≤ k ∧ k ≤ 9)) M N → N.2.2 = M.2.2 → ∃ N', (∀ u, qa_lm (qe (d + 1)) (qa_cd qc_23) (14, [.ref 65, .int (nI (fa_cnt (fun j => tx_a (b (q + j))) i)), .int (nI (fa_cnt (fun j => tx_d (b (q + j))) i))], [], (qb_hp (qj N u), 149, c)) = qa_lm (qe (d + 1)) (qa_cd qc_23) (136, [.ref 65, .int (nI (fa_cnt (fun j => tx_a (b (q + j))) m)), .int (nI (fa_cnt (fun j => tx_d (b (q + j))) m))], [], (qb_hp (qj N' u), 149, c))) ∧ N'.1 65 5 = nI (q + m) ∧ (tx_A b q m = true → N'.2.1 65 9 = lN (qn_32 (tx_ls b q m))) ∧ (tx_D b q m = true → N'.1 65 8 = nI (tx_nm b q m)) ∧ qG (fun x k => x = 65 ∧ (k = 5 ∨ 8 ≤ k ∧ k ≤ 9)) M N' ∧ N'.2.2 = M.2.2 := by
    intro j
    induction j with
    | zero =>
      intro i N hi h5 hA hD hG hp
      have hi : i = m := by omega
      subst hi
      refine ⟨N, fun u => ?_, h5, hA, hD, hG, hp⟩
      have h1 : N.1 65 1 = nI n := (hG.i (by omega)).trans f1
      refine go_ald_3_0 rfl ?_
      refine go_geti rfl ⟨_, rfl, rfl, by decide, by decide⟩ ?_
      refine go_ald_3_0 rfl ?_
      refine go_geti rfl ⟨_, rfl, rfl, by decide, by decide⟩ ?_
      rw [show (qj N u).1 65 5 = nI (q + i) from h5, show (qj N u).1 65 1 = nI n from h1]
      refine go_icge rfl (fun e => ?_) (fun e => ?_)
      · rfl
      · have e : ¬ n ≤ q + i := fun z => e (nI_le z (by omega))
        have hbt : (qj N u).1 66 (q + i) = nI (b (q + i)) := (hG.i (show ¬ (66 = 65 ∧ _) by omega)).trans (fb (q + i) (by omega))
        have hno := r4 (by omega)
        rw [Bool.or_eq_true] at hno
        refine go_ald_3_0 rfl ?_
        refine go_getr rfl ⟨_, rfl, rfl, by decide, by decide⟩ ?_
        refine go_ald_3_0 rfl ?_
        refine go_geti rfl ⟨_, rfl, rfl, by decide, by decide⟩ ?_
        refine go_iald (j := q + i) rfl (⟨rfl, by decide, by decide, by decide⟩) (h5) (by omega) ?_
        rw [hbt]
        refine go_call1 rfl (sp_isLetterC d (b (q + i)) (b9 _ (by omega)) _) (Nat.le_of_ble_eq_true rfl) rfl ?_
        refine go_ifne rfl (fun e2 => ?_) (fun e2 => ?_)
        · refine go_ald_3_0 rfl ?_
          refine go_getr rfl ⟨_, rfl, rfl, by decide, by decide⟩ ?_
          refine go_ald_3_0 rfl ?_
          refine go_geti rfl ⟨_, rfl, rfl, by decide, by decide⟩ ?_
          refine go_iald (j := q + i) rfl (⟨rfl, by decide, by decide, by decide⟩) (h5) (by omega) ?_
          rw [hbt]
          refine go_call1 rfl (sp_isDigitC d (b (q + i)) (b9 _ (by omega)) _) (Nat.le_of_ble_eq_true rfl) rfl ?_
          refine go_ifeq rfl (fun e3 => ?_) (fun e3 => ?_)
          · rfl
          · exact absurd (Or.inr (Classical.byContradiction fun z => e3 (qB_f z))) hno
        · exact absurd (Or.inl (Classical.byContradiction fun z => e2 (qB_f z))) hno
    | succ j ih =>
      intro i N hi h5 hA hD hG hp
      have h1 : N.1 65 1 = nI n := (hG.i (by omega)).trans f1
      have hbt : ∀ u, (qj N u).1 66 (q + i) = nI (b (q + i)) := fun u => (hG.i (show ¬ (66 = 65 ∧ _) by omega)).trans (fb (q + i) (by omega))
      have hrn := hrun i (by omega)
      rw [Bool.or_eq_true] at hrn
      have head : ∀ u R, qa_lm (qe (d + 1)) (qa_cd qc_23) (55, [.ref 65, .int (nI (fa_cnt (fun j => tx_a (b (q + j))) i)), .int (nI (fa_cnt (fun j => tx_d (b (q + j))) i))], [], (qb_hp (qj N u), 149, c)) = R → qa_lm (qe (d + 1)) (qa_cd qc_23) (14, [.ref 65, .int (nI (fa_cnt (fun j => tx_a (b (q + j))) i)), .int (nI (fa_cnt (fun j => tx_d (b (q + j))) i))], [], (qb_hp (qj N u), 149, c)) = R := fun u R hR => by
        refine go_ald_3_0 rfl ?_
        refine go_geti rfl ⟨_, rfl, rfl, by decide, by decide⟩ ?_
        refine go_ald_3_0 rfl ?_
        refine go_geti rfl ⟨_, rfl, rfl, by decide, by decide⟩ ?_
        rw [show (qj N u).1 65 5 = nI (q + i) from h5, show (qj N u).1 65 1 = nI n from h1]
        refine go_icge rfl (fun e => ?_) (fun e => ?_)
        · exact absurd e (nI_ge (by omega) (by omega))
        · refine go_ald_3_0 rfl ?_
          refine go_getr rfl ⟨_, rfl, rfl, by decide, by decide⟩ ?_
          refine go_ald_3_0 rfl ?_
          refine go_geti rfl ⟨_, rfl, rfl, by decide, by decide⟩ ?_
          refine go_iald (j := q + i) rfl (⟨rfl, by decide, by decide, by decide⟩) (h5) (by omega) ?_
          rw [hbt]
          refine go_call1 rfl (sp_isLetterC d (b (q + i)) (b9 _ (by omega)) _) (Nat.le_of_ble_eq_true rfl) rfl ?_
          refine go_ifne rfl (fun e2 => ?_) (fun e2 => ?_)
          · refine go_ald_3_0 rfl ?_
            refine go_getr rfl ⟨_, rfl, rfl, by decide, by decide⟩ ?_
            refine go_ald_3_0 rfl ?_
            refine go_geti rfl ⟨_, rfl, rfl, by decide, by decide⟩ ?_
            refine go_iald (j := q + i) rfl (⟨rfl, by decide, by decide, by decide⟩) (h5) (by omega) ?_
            rw [hbt]
            refine go_call1 rfl (sp_isDigitC d (b (q + i)) (b9 _ (by omega)) _) (Nat.le_of_ble_eq_true rfl) rfl ?_
            refine go_ifeq rfl (fun e3 => ?_) (fun e3 => ?_)
            · exact absurd hrn (fun z => z.elim (qB_0.mp e2) (qB_0.mp e3))
            · exact hR
          · exact hR
      by_cases ha : tx_a (b (q + i)) = true
      · have hd : tx_d (b (q + i)) = false := eq_false_of_ne_true (fun z => tx_ad _ ha z)
        obtain ⟨v, hv⟩ : ∃ v, v = N.2.1 65 9 * 32 + (nI (b (q + i)) - 97 + 1).toInt64 := ⟨_, rfl⟩
        obtain ⟨N', z1, z2⟩ := ih (i + 1) (qb_ui (qb_ul N 65 9 v) 65 5 (nI (q + i + 1))) (by omega) qb_ui_1s (fun hq => by
          obtain ⟨g1, g2⟩ := tx_A_s hq
          show (qb_ul N 65 9 v).2.1 65 9 = _
          rw [qb_ul_1s, hv, hA g1, tx_lw g2, tx_ls_s, qn_32_s]) (fun hq => by
          have := (tx_D_s hq).2
          rw [hd] at this
          cases this) ((hG.ul (by omega)).ui (by omega)) hp
        refine ⟨N', fun u => head u _ ?_, z2⟩
        rw [← z1, fa_cnt_yes (p := fun j => tx_a (b (q + j))) ha, fa_cnt_no (p := fun j => tx_d (b (q + j))) hd]
        refine go_ald_3_0 rfl ?_
        refine go_getr rfl ⟨_, rfl, rfl, by decide, by decide⟩ ?_
        refine go_ald_3_0 rfl ?_
        refine go_geti rfl ⟨_, rfl, rfl, by decide, by decide⟩ ?_
        refine go_iald (j := q + i) rfl (⟨rfl, by decide, by decide, by decide⟩) (h5) (by omega) ?_
        rw [hbt]
        refine go_call1 rfl (sp_isLetterC d (b (q + i)) (b9 _ (by omega)) _) (Nat.le_of_ble_eq_true rfl) rfl ?_
        refine go_ifeq rfl (fun e => ?_) (fun e => ?_)
        · exact absurd ha (qB_0.mp e)
        · refine go_ald_3_0 rfl ?_
          refine go_ald_3_0 rfl ?_
          refine go_getl rfl ⟨_, rfl, rfl, by decide, by decide⟩ ?_
          refine go_ald_3_0 rfl ?_
          refine go_getr rfl ⟨_, rfl, rfl, by decide, by decide⟩ ?_
          refine go_ald_3_0 rfl ?_
          refine go_geti rfl ⟨_, rfl, rfl, by decide, by decide⟩ ?_
          refine go_iald (j := q + i) rfl (⟨rfl, by decide, by decide, by decide⟩) (h5) (by omega) ?_
          rw [hbt]
          refine go_call2 rfl (sp_withL d _ _ _) (Nat.le_of_ble_eq_true rfl) rfl ?_
          rw [show (qj N u).2.1 65 9 * 32 + (nI (b (q + i)) - 97 + 1).toInt64 = v from hv.symm]
          refine go_putl rfl ⟨_, rfl, rfl, by decide, by decide⟩ ?_
          rw [qj_ul (by decide)]
          refine go_inc_3_1 rfl rfl ?_
          rw [nI_1]
          refine go_goto rfl ?_
          refine go_ald_3_0 rfl ?_
          refine go_dup_ref rfl ?_
          refine go_geti rfl ⟨_, rfl, rfl, by decide, by decide⟩ ?_
          refine go_c rfl ?_
          rw [show (qj (qb_ul N 65 9 v) u).1 65 5 = nI (q + i) from h5]
          refine go_iadd rfl ?_
          rw [nI_1]
          refine go_puti rfl ⟨_, rfl, rfl, by decide, by decide⟩ rfl rfl ?_
          rw [qj_ui (by decide)]
          refine go_goto rfl ?_
          rfl
      · have hd : tx_d (b (q + i)) = true := hrn.resolve_left ha
        have ha' : tx_a (b (q + i)) = false := eq_false_of_ne_true ha
        obtain ⟨v, hv⟩ : ∃ v, v = N.1 65 8 * 10 + (nI (b (q + i)) - 48) := ⟨_, rfl⟩
        obtain ⟨N', z1, z2⟩ := ih (i + 1) (qb_ui (qb_ui N 65 8 v) 65 5 (nI (q + i + 1))) (by omega) qb_ui_1s (fun hq => by
          have := (tx_A_s hq).2
          rw [ha'] at this
          cases this) (fun hq => by
          obtain ⟨g1, g2⟩ := tx_D_s hq
          rw [qb_ui_1n (Or.inr (by decide)), qb_ui_1s, hv, hD g1, tx_nw g2]
          rfl) ((hG.ui (by omega)).ui (by omega)) hp
        refine ⟨N', fun u => head u _ ?_, z2⟩
        rw [← z1, fa_cnt_no (p := fun j => tx_a (b (q + j))) ha', fa_cnt_yes (p := fun j => tx_d (b (q + j))) hd]
        refine go_ald_3_0 rfl ?_
        refine go_getr rfl ⟨_, rfl, rfl, by decide, by decide⟩ ?_
        refine go_ald_3_0 rfl ?_
        refine go_geti rfl ⟨_, rfl, rfl, by decide, by decide⟩ ?_
        refine go_iald (j := q + i) rfl (⟨rfl, by decide, by decide, by decide⟩) (h5) (by omega) ?_
        rw [hbt]
        refine go_call1 rfl (sp_isLetterC d (b (q + i)) (b9 _ (by omega)) _) (Nat.le_of_ble_eq_true rfl) rfl ?_
        refine go_ifeq rfl (fun e => ?_) (fun e => ?_)
        · refine go_ald_3_0 rfl ?_
          refine go_ald_3_0 rfl ?_
          refine go_geti rfl ⟨_, rfl, rfl, by decide, by decide⟩ ?_
          refine go_c rfl ?_
          refine go_imul rfl ?_
          refine go_ald_3_0 rfl ?_
          refine go_getr rfl ⟨_, rfl, rfl, by decide, by decide⟩ ?_
          refine go_ald_3_0 rfl ?_
          refine go_geti rfl ⟨_, rfl, rfl, by decide, by decide⟩ ?_
          refine go_iald (j := q + i) rfl (⟨rfl, by decide, by decide, by decide⟩) (h5) (by omega) ?_
          rw [hbt]
          refine go_c rfl ?_
          refine go_isub rfl ?_
          refine go_iadd rfl ?_
          rw [show (qj N u).1 65 8 * 10 + (nI (b (q + i)) - 48) = v from hv.symm]
          refine go_puti rfl ⟨_, rfl, rfl, by decide, by decide⟩ rfl rfl ?_
          rw [qj_ui (by decide)]
          refine go_inc_3_2 rfl rfl ?_
          rw [nI_1]
          refine go_ald_3_0 rfl ?_
          refine go_dup_ref rfl ?_
          refine go_geti rfl ⟨_, rfl, rfl, by decide, by decide⟩ ?_
          refine go_c rfl ?_
          rw [show (qj (qb_ui N 65 8 v) u).1 65 5 = nI (q + i) from h5]
          refine go_iadd rfl ?_
          rw [nI_1]
          refine go_puti rfl ⟨_, rfl, rfl, by decide, by decide⟩ rfl rfl ?_
          rw [qj_ui (by decide)]
          refine go_goto rfl ?_
          rfl
        · exact absurd (qB_f ha) e
  obtain ⟨N, z1, z2, z3, z4, z5, z6⟩ := loop m 0 (qb_ui (qb_ul M 65 9 0) 65 8 0) (by omega) h5 (fun _ => rfl) (fun _ => rfl) ((qG.rf.ul (by omega)).ui (by omega)) rfl
  have en : ∀ u R, qa_lm (qe (d + 1)) (qa_cd qc_23) (136, [.ref 65, .int (nI (fa_cnt (fun j => tx_a (b (q + j))) m)), .int (nI (fa_cnt (fun j => tx_d (b (q + j))) m))], [], (qb_hp (qj N u), 149, c)) = R → qe (d + 2) 23 [.ref 65] (qb_hp (qj M u), 149, c) = R := fun u R hR => by
    refine (en_23 (d + 1) 65 _).trans ?_
    refine go_ald_3_0 rfl ?_
    refine go_c rfl ?_
    refine go_putl rfl ⟨_, rfl, rfl, by decide, by decide⟩ ?_
    rw [qj_ul (by decide)]
    refine go_ald_3_0 rfl ?_
    refine go_c rfl ?_
    refine go_puti rfl ⟨_, rfl, rfl, by decide, by decide⟩ rfl rfl ?_
    rw [qj_ui (by decide)]
    refine go_c rfl ?_
    refine go_ist_3_1 rfl rfl ?_
    refine go_c rfl ?_
    refine go_ist_3_2 rfl rfl ?_
    exact (z1 u).trans hR
  have cA9 : fa_cnt (fun j => tx_a (b (q + j))) m ≤ m := fa_cnt_le _ _
  have cD9 : fa_cnt (fun j => tx_d (b (q + j))) m ≤ m := fa_cnt_le _ _
  have cA : fa_cnt (fun j => tx_d (b (q + j))) m = 0 → tx_A b q m = true := fun h => tx_A_iff.mpr (fun i hi => by
    have h1 := hrun i hi
    rw [Bool.or_eq_true] at h1
    exact h1.resolve_right (fa_cnt_z h i hi))
  have cD : fa_cnt (fun j => tx_a (b (q + j))) m = 0 → tx_D b q m = true := fun h => tx_D_iff.mpr (fun i hi => by
    have h1 := hrun i hi
    rw [Bool.or_eq_true] at h1
    exact h1.resolve_left (fa_cnt_z h i hi))
  have cA0 : tx_A b q m = true → fa_cnt (fun j => tx_a (b (q + j))) m = m ∧ fa_cnt (fun j => tx_d (b (q + j))) m = 0 := fun h => ⟨fa_cnt_all (tx_A_iff.mp h), fa_cnt_0 (fun k hk z => tx_ad _ (tx_A_iff.mp h k hk) z)⟩
  have cD0 : tx_D b q m = true → fa_cnt (fun j => tx_d (b (q + j))) m = m ∧ fa_cnt (fun j => tx_a (b (q + j))) m = 0 := fun h => ⟨fa_cnt_all (tx_D_iff.mp h), fa_cnt_0 (fun k hk z => tx_ad _ z (tx_D_iff.mp h k hk))⟩
  by_cases k2 : tx_A b q m = true ∧ m ≤ 7
  · simp only [if_pos k2]
    obtain ⟨a1, a2⟩ := cA0 k2.1
    refine ⟨qb_up (qb_ui N 65 7 2) 65 10 (tx_wd (tx_ls b q m)), fun u => en u _ ?_, (show (qb_ui N 65 7 2).1 65 5 = nI (q + m) from (qb_ui_1n (Or.inr (by decide))).trans z2), ⟨(show (qb_ui N 65 7 2).1 65 7 = 2 from qb_ui_1s), z3 k2.1, qb_up_1s⟩, (((z5.mo (fun x k h => by omega)).ui (by omega)).up (by omega))⟩
    rw [a1, a2]
    refine go_ild_3_2 rfl ?_
    refine go_ifne rfl (fun e => ?_) (fun e => ?_)
    · refine go_ild_3_1 rfl ?_
      refine go_c rfl ?_
      refine go_icgt rfl (fun e2 => ?_) (fun e2 => ?_)
      · exact absurd ((nI_ltI (a := 7) (by decide) (by omega)).mp e2) (by omega)
      · refine go_ald_3_0 rfl ?_
        refine go_c rfl ?_
        refine go_puti rfl ⟨_, rfl, rfl, by decide, by decide⟩ rfl rfl ?_
        rw [qj_ui (by decide)]
        refine go_ald_3_0 rfl ?_
        refine go_ald_3_0 rfl ?_
        refine go_getl rfl ⟨_, rfl, rfl, by decide, by decide⟩ ?_
        rw [show (qj (qb_ui N 65 7 2) u).2.1 65 9 = lN (qn_32 (tx_ls b q m)) from z3 k2.1]
        refine go_call1 rfl (sp_spelt d (tx_ls b q m) _) (Nat.le_of_ble_eq_true rfl) rfl ?_
        refine go_putp rfl ⟨_, rfl, rfl, by decide, by decide⟩ ?_
        rw [qj_up (by decide)]
        refine go_goto rfl ?_
        exact fin_v rfl rfl
    · exact absurd rfl e
  · simp only [if_neg k2]
    have mid : ∀ u R, qa_lm (qe (d + 1)) (qa_cd qc_23) (165, [.ref 65, .int (nI (fa_cnt (fun j => tx_a (b (q + j))) m)), .int (nI (fa_cnt (fun j => tx_d (b (q + j))) m))], [], (qb_hp (qj N u), 149, c)) = R → qa_lm (qe (d + 1)) (qa_cd qc_23) (136, [.ref 65, .int (nI (fa_cnt (fun j => tx_a (b (q + j))) m)), .int (nI (fa_cnt (fun j => tx_d (b (q + j))) m))], [], (qb_hp (qj N u), 149, c)) = R := fun u R hR => by
      refine go_ild_3_2 rfl ?_
      refine go_ifne rfl (fun e => ?_) (fun e => ?_)
      · have e := (nI_eq (b := 0) (by omega) (by decide)).mp e
        have hA := cA e
        rw [(cA0 hA).1] at hR ⊢
        refine go_ild_3_1 rfl ?_
        refine go_c rfl ?_
        refine go_icgt rfl (fun e2 => ?_) (fun e2 => ?_)
        · exact hR
        · exact absurd ⟨hA, Nat.not_lt.mp (fun z => e2 (nI_lt (a := 7) z (by omega)))⟩ k2
      · exact hR
    by_cases k3 : tx_D b q m = true ∧ m ≤ 3
    · simp only [if_pos k3]
      obtain ⟨a1, a2⟩ := cD0 k3.1
      refine ⟨qb_ui N 65 7 3, fun u => en u _ (mid u _ ?_), (qb_ui_1n (Or.inr (by decide))).trans z2, ⟨qb_ui_1s, (qb_ui_1n (Or.inr (by decide))).trans (z4 k3.1), by show N.2.2 65 10 = _; rw [z6]⟩, (z5.mo (fun x k h => by omega)).ui (by omega)⟩
      rw [a1, a2]
      refine go_ild_3_1 rfl ?_
      refine go_ifne rfl (fun e => ?_) (fun e => ?_)
      · refine go_ild_3_2 rfl ?_
        refine go_c rfl ?_
        refine go_icgt rfl (fun e2 => ?_) (fun e2 => ?_)
        · exact absurd ((nI_ltI (a := 3) (by decide) (by omega)).mp e2) (by omega)
        · refine go_ald_3_0 rfl ?_
          refine go_c rfl ?_
          refine go_puti rfl ⟨_, rfl, rfl, by decide, by decide⟩ rfl rfl ?_
          rw [qj_ui (by decide)]
          refine go_goto rfl ?_
          exact fin_v rfl rfl
      · exact absurd rfl e
    · simp only [if_neg k3]
      refine ⟨qb_ui N 65 7 1, fun u => en u _ (mid u _ ?_), (qb_ui_1n (Or.inr (by decide))).trans z2, ⟨qb_ui_1s, by show N.2.2 65 10 = _; rw [z6]⟩, (z5.mo (fun x k h => by omega)).ui (by omega)⟩
      have fin : qa_lm (qe (d + 1)) (qa_cd qc_23) (182, [.ref 65, .int (nI (fa_cnt (fun j => tx_a (b (q + j))) m)), .int (nI (fa_cnt (fun j => tx_d (b (q + j))) m))], [], (qb_hp (qj N u), 149, c)) = some (none, (qb_hp (qj (qb_ui N 65 7 1) u), 149, c)) := by
        refine go_ald_3_0 rfl ?_
        refine go_c rfl ?_
        refine go_puti rfl ⟨_, rfl, rfl, by decide, by decide⟩ rfl rfl ?_
        rw [qj_ui (by decide)]
        exact fin_v rfl rfl
      refine go_ild_3_1 rfl ?_
      refine go_ifne rfl (fun e => ?_) (fun e => ?_)
      · have e := (nI_eq (b := 0) (by omega) (by decide)).mp e
        have hD := cD e
        rw [(cD0 hD).1] at fin ⊢
        refine go_ild_3_2 rfl ?_
        refine go_c rfl ?_
        refine go_icgt rfl (fun e2 => ?_) (fun e2 => ?_)
        · exact fin
        · exact absurd ⟨hD, Nat.not_lt.mp (fun z => e2 (nI_lt (a := 3) z (by omega)))⟩ k3
      · exact fin
theorem sp_step (d : Nat) (c : Nat × Nat) {M : qb_M} {n l : Nat} {b : Nat → Nat} (hF : tx_F M n l b) {p : Nat} (hp : p ≤ n) (h5 : M.1 65 5 = nI p) : ∃ M', (∀ u, qe (d + 3) 20 [.ref 65] (qb_hp (qj M u), 149, c) = some (none, (qb_hp (qj M' u), 149, c))) ∧ tx_C M' n l b p ∧ qG (fun x k => x = 65 ∧ 5 ≤ k ∧ k ≤ 10) M M' := by
  obtain ⟨⟨q1, q2⟩, q3, q4⟩ := tx_q_ok (n := n) (b := b) hp
  unfold tx_C tx_k tx_p tx_e tx_l tx_n
  obtain ⟨q, hq⟩ : ∃ q, q = tx_q n b p := ⟨_, rfl⟩
  rw [← hq] at q1 q2 q3 q4 ⊢
  obtain ⟨⟨n9, l9, b9⟩, f1, f4, fb⟩ := id hF
  have skip : ∀ j i (N : qb_M), i + j = q → p ≤ i → N.1 65 5 = nI i → qG (fun x k => x = 65 ∧ k = 5) M N → ∃ N', (∀ u, qa_lm (qe (d + 2)) (qa_cd qc_20) (0, [.ref 65], [], (qb_hp (qj N u), 149, c)) = qa_lm (qe (d + 2)) (qa_cd qc_20) (52, [.ref 65], [], (qb_hp (qj N' u), 149, c))) ∧ N'.1 65 5 = nI q ∧ qG (fun x k => x = 65 ∧ k = 5) M N' := by
    intro j
    induction j with
    | zero =>
      intro i N hi hpi h5 hG
      have hi : i = q := by omega
      subst hi
      refine ⟨N, fun u => ?_, h5, hG⟩
      have h1 : N.1 65 1 = nI n := (hG.i (by omega)).trans f1
      refine go_ald_1_0 rfl ?_
      refine go_geti rfl ⟨_, rfl, rfl, by decide, by decide⟩ ?_
      refine go_ald_1_0 rfl ?_
      refine go_geti rfl ⟨_, rfl, rfl, by decide, by decide⟩ ?_
      rw [show (qj N u).1 65 5 = nI i from h5, show (qj N u).1 65 1 = nI n from h1]
      refine go_icge rfl (fun e => ?_) (fun e => ?_)
      · rfl
      · have e : ¬ n ≤ i := fun z => e (nI_le z (by omega))
        have hbt : (qj N u).1 66 i = nI (b i) := (hG.i (show ¬ (66 = 65 ∧ _) by omega)).trans (fb i (by omega))
        have hno := q4 (by omega)
        have b2 := b9 i (by omega)
        unfold tx_w at hno
        rw [Bool.or_eq_true, decide_eq_true_eq, decide_eq_true_eq] at hno
        refine go_ald_1_0 rfl ?_
        refine go_getr rfl ⟨_, rfl, rfl, by decide, by decide⟩ ?_
        refine go_ald_1_0 rfl ?_
        refine go_geti rfl ⟨_, rfl, rfl, by decide, by decide⟩ ?_
        refine go_iald (j := i) rfl (⟨rfl, by decide, by decide, by decide⟩) (h5) (by omega) ?_
        refine go_c rfl ?_
        rw [hbt]
        refine go_iceq rfl (fun e2 => ?_) (fun e2 => ?_)
        · exact absurd (Or.inl ((nI_eq (b := 32) (by omega) (by decide)).mp e2)) hno
        · refine go_ald_1_0 rfl ?_
          refine go_getr rfl ⟨_, rfl, rfl, by decide, by decide⟩ ?_
          refine go_ald_1_0 rfl ?_
          refine go_geti rfl ⟨_, rfl, rfl, by decide, by decide⟩ ?_
          refine go_iald (j := i) rfl (⟨rfl, by decide, by decide, by decide⟩) (h5) (by omega) ?_
          refine go_c rfl ?_
          rw [hbt]
          refine go_icne rfl (fun e3 => ?_) (fun e3 => ?_)
          · exact absurd (Or.inr ((nI_eq (b := 10) (by omega) (by decide)).mp e3)) hno
          · rfl
    | succ j ih =>
      intro i N hi hpi h5 hG
      have h1 : N.1 65 1 = nI n := (hG.i (by omega)).trans f1
      obtain ⟨N', z1, z2⟩ := ih (i + 1) (qb_ui N 65 5 (nI (i + 1))) (by omega) (by omega) qb_ui_1s (hG.ui ⟨rfl, rfl⟩)
      refine ⟨N', fun u => ?_, z2⟩
      have hbt : (qj N u).1 66 i = nI (b i) := (hG.i (show ¬ (66 = 65 ∧ _) by omega)).trans (fb i (by omega))
      have hw := q3 i hpi (by omega)
      have b2 := b9 i (by omega)
      unfold tx_w at hw
      rw [Bool.or_eq_true, decide_eq_true_eq, decide_eq_true_eq] at hw
      have yes : qa_lm (qe (d + 2)) (qa_cd qc_20) (39, [.ref 65], [], (qb_hp (qj N u), 149, c)) = qa_lm (qe (d + 2)) (qa_cd qc_20) (52, [.ref 65], [], (qb_hp (qj N' u), 149, c)) := by
        rw [← z1]
        refine go_ald_1_0 rfl ?_
        refine go_dup_ref rfl ?_
        refine go_geti rfl ⟨_, rfl, rfl, by decide, by decide⟩ ?_
        refine go_c rfl ?_
        rw [show (qj N u).1 65 5 = nI i from h5]
        refine go_iadd rfl ?_
        rw [nI_1]
        refine go_puti rfl ⟨_, rfl, rfl, by decide, by decide⟩ rfl rfl ?_
        rw [qj_ui (by decide)]
        refine go_goto rfl ?_
        rfl
      refine go_ald_1_0 rfl ?_
      refine go_geti rfl ⟨_, rfl, rfl, by decide, by decide⟩ ?_
      refine go_ald_1_0 rfl ?_
      refine go_geti rfl ⟨_, rfl, rfl, by decide, by decide⟩ ?_
      rw [show (qj N u).1 65 5 = nI i from h5, show (qj N u).1 65 1 = nI n from h1]
      refine go_icge rfl (fun e => ?_) (fun e => ?_)
      · exact absurd e (nI_ge (by omega) (by omega))
      · refine go_ald_1_0 rfl ?_
        refine go_getr rfl ⟨_, rfl, rfl, by decide, by decide⟩ ?_
        refine go_ald_1_0 rfl ?_
        refine go_geti rfl ⟨_, rfl, rfl, by decide, by decide⟩ ?_
        refine go_iald (j := i) rfl (⟨rfl, by decide, by decide, by decide⟩) (h5) (by omega) ?_
        refine go_c rfl ?_
        rw [hbt]
        refine go_iceq rfl (fun e2 => ?_) (fun e2 => ?_)
        · exact yes
        · refine go_ald_1_0 rfl ?_
          refine go_getr rfl ⟨_, rfl, rfl, by decide, by decide⟩ ?_
          refine go_ald_1_0 rfl ?_
          refine go_geti rfl ⟨_, rfl, rfl, by decide, by decide⟩ ?_
          refine go_iald (j := i) rfl (⟨rfl, by decide, by decide, by decide⟩) (h5) (by omega) ?_
          refine go_c rfl ?_
          rw [hbt]
          refine go_icne rfl (fun e3 => ?_) (fun e3 => ?_)
          · exact yes
          · exact absurd hw (fun z => z.elim (fun y => e2 (by rw [y]; rfl)) (fun y => e3 (by rw [y]; rfl)))
  obtain ⟨N, z1, z2, z3⟩ := skip (q - p) p M (by omega) (Nat.le_refl _) h5 qG.rf
  obtain ⟨K, hK⟩ : ∃ K, K = qb_up (qb_ui N 65 6 (nI q)) 65 10 none := ⟨_, rfl⟩
  have hGK : qG (fun x k => x = 65 ∧ 5 ≤ k ∧ k ≤ 10) M K := by rw [hK]; exact ((z3.mo (fun x k h => by omega)).ui (by omega)).up (by omega)
  have K5 : K.1 65 5 = nI q := by rw [hK]; exact z2
  have K6 : K.1 65 6 = nI q := by rw [hK]; rfl
  have K10 : K.2.2 65 10 = none := by rw [hK]; rfl
  have K1 : K.1 65 1 = nI n := (hGK.i (by omega)).trans f1
  have K4 : K.1 65 4 = nI l := (hGK.i (by omega)).trans f4
  have en : ∀ u R, qa_lm (qe (d + 2)) (qa_cd qc_20) (65, [.ref 65], [], (qb_hp (qj K u), 149, c)) = R → qe (d + 3) 20 [.ref 65] (qb_hp (qj M u), 149, c) = R := fun u R hR => by
    refine (en_20 (d + 2) 65 _).trans ((z1 u).trans ?_)
    rw [hK] at hR
    refine go_ald_1_0 rfl ?_
    refine go_ald_1_0 rfl ?_
    refine go_geti rfl ⟨_, rfl, rfl, by decide, by decide⟩ ?_
    rw [show (qj N u).1 65 5 = nI q from z2]
    refine go_puti rfl ⟨_, rfl, rfl, by decide, by decide⟩ rfl rfl ?_
    rw [qj_ui (by decide)]
    refine go_ald_1_0 rfl ?_
    refine go_c rfl ?_
    refine go_putp (v := none) rfl ⟨_, rfl, rfl, by decide, by decide⟩ ?_
    rw [qj_up (by decide)]
    exact hR
  by_cases hl : l < n ∧ l ≤ q
  · simp only [if_pos hl]
    refine ⟨qb_ui (qb_ui K 65 6 (nI l)) 65 7 1, fun u => en u _ ?_, ⟨K5, rfl, rfl, fun h => absurd h (by decide), fun _ => K10, fun h => absurd h (by decide)⟩, (hGK.ui (by omega)).ui (by omega)⟩
    refine go_ald_1_0 rfl ?_
    refine go_geti rfl ⟨_, rfl, rfl, by decide, by decide⟩ ?_
    refine go_ald_1_0 rfl ?_
    refine go_geti rfl ⟨_, rfl, rfl, by decide, by decide⟩ ?_
    rw [show (qj K u).1 65 1 = nI n from K1, show (qj K u).1 65 4 = nI l from K4]
    refine go_icle rfl (fun e => ?_) (fun e => ?_)
    · exact absurd e (nI_ge hl.1 (by omega))
    · refine go_ald_1_0 rfl ?_
      refine go_geti rfl ⟨_, rfl, rfl, by decide, by decide⟩ ?_
      refine go_ald_1_0 rfl ?_
      refine go_geti rfl ⟨_, rfl, rfl, by decide, by decide⟩ ?_
      rw [show (qj K u).1 65 5 = nI q from K5, show (qj K u).1 65 4 = nI l from K4]
      refine go_iclt rfl (fun e2 => ?_) (fun e2 => ?_)
      · exact absurd ((nI_ltI (by omega) (by omega)).mp e2) (by omega)
      · refine go_ald_1_0 rfl ?_
        refine go_ald_1_0 rfl ?_
        refine go_geti rfl ⟨_, rfl, rfl, by decide, by decide⟩ ?_
        rw [show (qj K u).1 65 4 = nI l from K4]
        refine go_puti rfl ⟨_, rfl, rfl, by decide, by decide⟩ rfl rfl ?_
        rw [qj_ui (by decide)]
        refine go_ald_1_0 rfl ?_
        refine go_c rfl ?_
        refine go_puti rfl ⟨_, rfl, rfl, by decide, by decide⟩ rfl rfl ?_
        rw [qj_ui (by decide)]
        refine go_goto rfl ?_
        exact fin_v rfl rfl
  · simp only [if_neg hl]
    have en2 : ∀ u R, qa_lm (qe (d + 2)) (qa_cd qc_20) (103, [.ref 65], [], (qb_hp (qj K u), 149, c)) = R → qe (d + 3) 20 [.ref 65] (qb_hp (qj M u), 149, c) = R := fun u R hR => en u R (by
      refine go_ald_1_0 rfl ?_
      refine go_geti rfl ⟨_, rfl, rfl, by decide, by decide⟩ ?_
      refine go_ald_1_0 rfl ?_
      refine go_geti rfl ⟨_, rfl, rfl, by decide, by decide⟩ ?_
      rw [show (qj K u).1 65 1 = nI n from K1, show (qj K u).1 65 4 = nI l from K4]
      refine go_icle rfl (fun e => ?_) (fun e => ?_)
      · exact hR
      · have e : ¬ n ≤ l := fun z => e (nI_le z (by omega))
        refine go_ald_1_0 rfl ?_
        refine go_geti rfl ⟨_, rfl, rfl, by decide, by decide⟩ ?_
        refine go_ald_1_0 rfl ?_
        refine go_geti rfl ⟨_, rfl, rfl, by decide, by decide⟩ ?_
        rw [show (qj K u).1 65 5 = nI q from K5, show (qj K u).1 65 4 = nI l from K4]
        refine go_iclt rfl (fun e2 => ?_) (fun e2 => ?_)
        · exact hR
        · exact absurd ⟨by omega, Nat.not_lt.mp (fun z => e2 (nI_lt z (by omega)))⟩ hl)
    by_cases he : n ≤ q
    · simp only [if_pos he]
      refine ⟨qb_ui K 65 7 0, fun u => en2 u _ ?_, ⟨K5, K6, rfl, fun h => absurd h (by decide), fun _ => K10, fun h => absurd h (by decide)⟩, hGK.ui (by omega)⟩
      refine go_ald_1_0 rfl ?_
      refine go_geti rfl ⟨_, rfl, rfl, by decide, by decide⟩ ?_
      refine go_ald_1_0 rfl ?_
      refine go_geti rfl ⟨_, rfl, rfl, by decide, by decide⟩ ?_
      rw [show (qj K u).1 65 1 = nI n from K1, show (qj K u).1 65 5 = nI q from K5]
      refine go_iclt rfl (fun e => ?_) (fun e => ?_)
      · exact absurd ((nI_ltI (by omega) (by omega)).mp e) (by omega)
      · refine go_ald_1_0 rfl ?_
        refine go_c rfl ?_
        refine go_puti rfl ⟨_, rfl, rfl, by decide, by decide⟩ rfl rfl ?_
        rw [qj_ui (by decide)]
        refine go_goto rfl ?_
        exact fin_v rfl rfl
    · simp only [if_neg he]
      have hqn : q < n := by omega
      have b2 := b9 q hqn
      have hbt : ∀ u, (qj K u).1 66 q = nI (b q) := fun u => (hGK.i (show ¬ (66 = 65 ∧ _) by omega)).trans (fb q hqn)
      have en3 : ∀ u R, ((tx_a (b q) || tx_d (b q)) = true → qa_lm (qe (d + 2)) (qa_cd qc_20) (152, [.ref 65], [], (qb_hp (qj K u), 149, c)) = R) → (¬ (tx_a (b q) || tx_d (b q)) = true → qa_lm (qe (d + 2)) (qa_cd qc_20) (159, [.ref 65], [], (qb_hp (qj K u), 149, c)) = R) → qe (d + 3) 20 [.ref 65] (qb_hp (qj M u), 149, c) = R := fun u R g1 g2 => en2 u R (by
        rw [Bool.or_eq_true] at g1 g2
        refine go_ald_1_0 rfl ?_
        refine go_geti rfl ⟨_, rfl, rfl, by decide, by decide⟩ ?_
        refine go_ald_1_0 rfl ?_
        refine go_geti rfl ⟨_, rfl, rfl, by decide, by decide⟩ ?_
        rw [show (qj K u).1 65 1 = nI n from K1, show (qj K u).1 65 5 = nI q from K5]
        refine go_iclt rfl (fun e => ?_) (fun e => ?_)
        · refine go_ald_1_0 rfl ?_
          refine go_getr rfl ⟨_, rfl, rfl, by decide, by decide⟩ ?_
          refine go_ald_1_0 rfl ?_
          refine go_geti rfl ⟨_, rfl, rfl, by decide, by decide⟩ ?_
          refine go_iald (j := q) rfl (⟨rfl, by decide, by decide, by decide⟩) (K5) (by omega) ?_
          rw [hbt]
          refine go_call1 rfl (sp_isLetterC (d + 1) (b q) b2 _) (Nat.le_of_ble_eq_true rfl) rfl ?_
          refine go_ifne rfl (fun e2 => ?_) (fun e2 => ?_)
          · refine go_ald_1_0 rfl ?_
            refine go_getr rfl ⟨_, rfl, rfl, by decide, by decide⟩ ?_
            refine go_ald_1_0 rfl ?_
            refine go_geti rfl ⟨_, rfl, rfl, by decide, by decide⟩ ?_
            refine go_iald (j := q) rfl (⟨rfl, by decide, by decide, by decide⟩) (K5) (by omega) ?_
            rw [hbt]
            refine go_call1 rfl (sp_isDigitC (d + 1) (b q) b2 _) (Nat.le_of_ble_eq_true rfl) rfl ?_
            refine go_ifeq rfl (fun e3 => ?_) (fun e3 => ?_)
            · exact g2 (fun z => z.elim (qB_0.mp e2) (qB_0.mp e3))
            · exact g1 (Or.inr (Classical.byContradiction fun z => e3 (qB_f z)))
          · exact g1 (Or.inl (Classical.byContradiction fun z => e2 (qB_f z)))
        · exact absurd (nI_lt hqn (by omega)) e)
      by_cases hr : (tx_a (b q) || tx_d (b q)) = true
      · simp only [if_pos hr]
        obtain ⟨N', y1, y2, y3, y4⟩ := sp_readRun d c (hF.mv hGK (fun x k h => by omega)) hqn K5
        refine ⟨N', fun u => en3 u _ (fun _ => ?_) (fun z => absurd hr z), ⟨y2, (y4.i (by omega)).trans K6, ?_⟩, hGK.tr (y4.mo (fun x k h => by omega))⟩
        · refine go_ald_1_0 rfl ?_
          refine go_call1 rfl (y1 u) (Nat.le_of_ble_eq_true rfl) (qb_qv rfl (by decide) (by decide)) ?_
          refine go_goto rfl ?_
          exact fin_v rfl rfl
        · by_cases k2 : tx_A b q (tx_r n b q - q) = true ∧ tx_r n b q - q ≤ 7
          · rw [if_pos k2] at y3 ⊢
            exact ⟨y3.1, fun _ => y3.2, fun h => absurd rfl h, fun h => absurd h (by decide)⟩
          · rw [if_neg k2] at y3 ⊢
            by_cases k3 : tx_D b q (tx_r n b q - q) = true ∧ tx_r n b q - q ≤ 3
            · rw [if_pos k3] at y3 ⊢
              exact ⟨y3.1, fun h => absurd h (by decide), fun _ => y3.2.2.trans K10, fun _ => y3.2.1⟩
            · rw [if_neg k3] at y3 ⊢
              exact ⟨y3.1, fun h => absurd h (by decide), fun _ => y3.2.trans K10, fun h => absurd h (by decide)⟩
      · simp only [if_neg hr]
        by_cases hs : tx_s (b q) = true
        · have hbq : b q = 59 ∨ b q = 60 ∨ b q = 61 ∨ b q = 62 ∨ b q = 40 ∨ b q = 41 := by
            unfold tx_s at hs
            simp only [Bool.or_eq_true, decide_eq_true_eq] at hs
            omega
          simp only [if_pos hs]
          refine ⟨qb_ui (qb_ui K 65 7 (nI (b q))) 65 5 (nI (q + 1)), fun u => en3 u _ (fun z => absurd z hr) (fun _ => ?_), ⟨qb_ui_1s, K6, rfl, fun h => absurd h (by omega), fun _ => K10, fun h => absurd h (by omega)⟩, (hGK.ui (by omega)).ui (by omega)⟩
          refine go_ald_1_0 rfl ?_
          refine go_ald_1_0 rfl ?_
          refine go_getr rfl ⟨_, rfl, rfl, by decide, by decide⟩ ?_
          refine go_ald_1_0 rfl ?_
          refine go_geti rfl ⟨_, rfl, rfl, by decide, by decide⟩ ?_
          refine go_iald (j := q) rfl (⟨rfl, by decide, by decide, by decide⟩) (K5) (by omega) ?_
          rw [hbt]
          refine go_call1 rfl (sp_isSignC (d + 1) (b q) b2 _) (Nat.le_of_ble_eq_true rfl) rfl ?_
          refine go_ifeq rfl (fun e => ?_) (fun e => ?_)
          · exact absurd hs (qB_0.mp e)
          · refine go_ald_1_0 rfl ?_
            refine go_getr rfl ⟨_, rfl, rfl, by decide, by decide⟩ ?_
            refine go_ald_1_0 rfl ?_
            refine go_geti rfl ⟨_, rfl, rfl, by decide, by decide⟩ ?_
            refine go_iald (j := q) rfl (⟨rfl, by decide, by decide, by decide⟩) (K5) (by omega) ?_
            rw [hbt]
            refine go_goto rfl ?_
            refine go_puti rfl ⟨_, rfl, rfl, by decide, by decide⟩ rfl rfl ?_
            rw [qj_ui (by decide)]
            refine go_ald_1_0 rfl ?_
            refine go_dup_ref rfl ?_
            refine go_geti rfl ⟨_, rfl, rfl, by decide, by decide⟩ ?_
            refine go_c rfl ?_
            rw [show (qj (qb_ui K 65 7 (nI (b q))) u).1 65 5 = nI q from K5]
            refine go_iadd rfl ?_
            rw [nI_1]
            refine go_puti rfl ⟨_, rfl, rfl, by decide, by decide⟩ rfl rfl ?_
            rw [qj_ui (by decide)]
            exact fin_v rfl rfl
        · simp only [if_neg hs]
          refine ⟨qb_ui (qb_ui K 65 7 1) 65 5 (nI (q + 1)), fun u => en3 u _ (fun z => absurd z hr) (fun _ => ?_), ⟨qb_ui_1s, K6, rfl, fun h => absurd h (by decide), fun _ => K10, fun h => absurd h (by decide)⟩, (hGK.ui (by omega)).ui (by omega)⟩
          refine go_ald_1_0 rfl ?_
          refine go_ald_1_0 rfl ?_
          refine go_getr rfl ⟨_, rfl, rfl, by decide, by decide⟩ ?_
          refine go_ald_1_0 rfl ?_
          refine go_geti rfl ⟨_, rfl, rfl, by decide, by decide⟩ ?_
          refine go_iald (j := q) rfl (⟨rfl, by decide, by decide, by decide⟩) (K5) (by omega) ?_
          rw [hbt]
          refine go_call1 rfl (sp_isSignC (d + 1) (b q) b2 _) (Nat.le_of_ble_eq_true rfl) rfl ?_
          refine go_ifeq rfl (fun e => ?_) (fun e => ?_)
          · refine go_c rfl ?_
            refine go_puti rfl ⟨_, rfl, rfl, by decide, by decide⟩ rfl rfl ?_
            rw [qj_ui (by decide)]
            refine go_ald_1_0 rfl ?_
            refine go_dup_ref rfl ?_
            refine go_geti rfl ⟨_, rfl, rfl, by decide, by decide⟩ ?_
            refine go_c rfl ?_
            rw [show (qj (qb_ui K 65 7 1) u).1 65 5 = nI q from K5]
            refine go_iadd rfl ?_
            rw [nI_1]
            refine go_puti rfl ⟨_, rfl, rfl, by decide, by decide⟩ rfl rfl ?_
            rw [qj_ui (by decide)]
            exact fin_v rfl rfl
          · exact absurd (qB_f hs) e
