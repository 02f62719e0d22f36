/-! a board's lines, read by both -/
theorem fa_first_cong {p q : Nat → Bool} : ∀ {n : Nat}, (∀ k, k < n → p k = q k) → fa_first p n = fa_first q n
  | 0, _ => rfl
  | n + 1, h => by
    unfold fa_first
    rw [fa_first_cong (fun k hk => h k (by omega)), h n (by omega)]
theorem tx_ix_cong {f g : Nat → Int64} {many : Nat} {x y : Int64} (h : ∀ k, k < many → (f k = x ↔ g k = y)) : tx_ix f many x = tx_ix g many y := by
  unfold tx_ix
  rw [fa_first_cong (q := fun k => decide (g k = y)) (fun k hk => decide_eq_decide.mpr (h k hk))]
theorem tx_ix_or {f : Nat → Int64} {many : Nat} {x : Int64} : tx_ix f many x = -1 ∨ ∃ z, z < many ∧ tx_ix f many x = nI z := by
  unfold tx_ix
  by_cases h : fa_first (fun k => decide (f k = x)) many < many
  · exact Or.inr ⟨_, h, if_pos h⟩
  · exact Or.inl (if_neg h)
theorem nI_m1 {z : Nat} (h : z < 2 ^ 31) : ¬ nI z = -1 := fun e => by
  have := (nI_eq32 (a := z) (b := 2 ^ 32 - 1) (by omega) (by decide)).mp (e.trans (by decide +kernel))
  omega
/-- what a failed reader leaves -/
def fR (M : qb_M) : Prop := ∃ f pl : Nat, pl ≤ 940 ∧ M.1 65 2 = nI f ∧ M.1 192 10 = nI f ∧ M.1 65 3 = nI pl ∧ M.1 192 11 = nI pl
theorem fR_of {A B : qb_M} {f pl : Nat} (h : pl ≤ 940) : fR (qj (fC A f pl) (fM B f pl)) := ⟨f, pl, h, rfl, rfl, rfl, rfl⟩
/-- what a reader of a board changes -/
def bF (x k : Nat) : Prop := x = 65 ∧ 5 ≤ k ∧ k ≤ 10 ∨ 139 ≤ x ∧ x ≤ 144 ∧ (x ≠ 139 ∨ k ≠ 10) ∨ x = 192 ∧ (5 ≤ k ∧ k ≤ 9 ∨ k = 12 ∨ k = 13) ∨ x = 195 ∨ x = 200 ∨ x = 203
def bG (x k : Nat) : Prop := bF x k ∨ x = 65 ∧ (k = 2 ∨ k = 3) ∨ x = 192 ∧ (k = 10 ∨ k = 11)
/-- how a reader ends -/
def rO (P Q : Nat → Nat → Prop) (n l : Nat) (b : Nat → Nat) (p : Nat) (M M' : qb_M) (r : Int32) (G : qb_M → Prop) : Prop := (r = 1 ∧ (∃ p', p < p' ∧ rC M' n l b p' ∧ rM M' n l b p') ∧ G M' ∧ qG P M M') ∨ (r = 0 ∧ fR M' ∧ qG Q M M')
/-- a number, read by both -/
theorem nb_both (d d' : Nat) (c : Nat × Nat) {A B : qb_M} {n l : Nat} {b : Nat → Nat} {p : Nat} (hC : rC A n l b p) (hM : rM B n l b p) (x y : Int32) : (tx_k n l b p = 3 ∧ (x ≤ nI (tx_n n b p) ∧ nI (tx_n n b p) ≤ y) ∧ (∀ u, qe (d + 2) 31 [.ref 65, .int x, .int y] (qb_hp (qj A u), 149, c) = some (some (.int (1)), (qb_hp (qj A u), 149, c))) ∧ ∃ B', (∀ u, qe (d' + 4) 181 [.ref 192, .int x, .int y] (qb_hp (qj u B), 149, c) = some (some (.int (1)), (qb_hp (qj u B'), 149, c))) ∧ rM B' n l b (tx_e n l b p) ∧ B'.1 192 13 = nI (tx_n n b p) ∧ qG (fun x k => x = 192 ∧ (5 ≤ k ∧ k ≤ 9 ∨ k = 12 ∨ k = 13)) B B') ∨ ∃ f : Nat, (∀ u, qe (d + 2) 31 [.ref 65, .int x, .int y] (qb_hp (qj A u), 149, c) = some (some (.int (0)), (qb_hp (qj (fC A f (tx_p n l b p)) u), 149, c))) ∧ ∀ u, qe (d' + 4) 181 [.ref 192, .int x, .int y] (qb_hp (qj u B), 149, c) = some (some (.int (0)), (qb_hp (qj u (fM B f (tx_p n l b p))), 149, c)) := by
  obtain ⟨m1, m2, m3⟩ := pm_readNumber d' c hM x y
  by_cases h3 : tx_k n l b p = 3
  · by_cases hr : x ≤ nI (tx_n n b p) ∧ nI (tx_n n b p) ≤ y
    · exact Or.inl ⟨h3, hr, fun u => (pc_isNumber d c hC x y u).1 h3 hr, m1 h3 hr⟩
    · exact Or.inr ⟨2, fun u => (pc_isNumber d c hC x y u).2.1 h3 hr, m2 h3 hr⟩
  · exact Or.inr ⟨1, fun u => (pc_isNumber d c hC x y u).2.2 h3, m3 h3⟩
theorem pm_put1 (d : Nat) (s : qb_M) (c : Nat × Nat) (k : Nat) (hk : k < 30) : qe (d + 1) 183 [.ref 192, .int (nI k), .int 1] (qb_hp (s), 149, c) = some (some (.int (1)), (qb_hp (qb_ui s 195 k (s.1 192 13)), 149, c)) := by
  refine (en_183 d 192 (nI k) 1 _).trans ?_
  refine go_ild_3_2 rfl ?_
  refine go_ifeq rfl (fun e => ?_) (fun e => ?_)
  · exact absurd e (by decide)
  · refine go_ald_3_0 rfl ?_
    refine go_getr rfl ⟨_, rfl, rfl, by decide, by decide⟩ ?_
    refine go_ild_3_1 rfl ?_
    refine go_ald_3_0 rfl ?_
    refine go_geti rfl ⟨_, rfl, rfl, by decide, by decide⟩ ?_
    refine go_iast (j := k) rfl (⟨rfl, by decide, by decide, by decide⟩) (rfl) (by omega) ?_
    refine go_ild_3_2 rfl ?_
    exact fin_i rfl rfl rfl
theorem pm_put0 (d : Nat) (s : qb_M) (c : Nat × Nat) (k : Int32) : qe (d + 1) 183 [.ref 192, .int k, .int 0] (qb_hp (s), 149, c) = some (some (.int (0)), (qb_hp (s), 149, c)) := by
  refine (en_183 d 192 k 0 _).trans ?_
  refine go_ild_3_2 rfl ?_
  refine go_ifeq rfl (fun e => ?_) (fun e => ?_)
  · refine go_ild_3_2 rfl ?_
    exact fin_i rfl rfl rfl
  · exact absurd rfl e
theorem pm_fresh (d : Nat) (c : Nat × Nat) {M : qb_M} {n l : Nat} {b : Nat → Nat} {p : Nat} (hM : rM M n l b p) (hk : tx_k n l b p = 2) (k : Nat) (hk2 : k < 2) {t : Bool} (ht : M.1 203 k = qB (t = true)) : (t = true → ∀ u, qe (d + 4) 180 [.ref 192, .int (nI k)] (qb_hp (qj u M), 149, c) = some (some (.int (0)), (qb_hp (qj u (fM M 3 (tx_p n l b p))), 149, c))) ∧ (t = false → ∃ M', (∀ u, qe (d + 4) 180 [.ref 192, .int (nI k)] (qb_hp (qj u M), 149, c) = some (some (.int (1)), (qb_hp (qj u M'), 149, c))) ∧ rM M' n l b (tx_e n l b p) ∧ M'.1 203 k = 1 ∧ qG (fun x j => x = 192 ∧ (5 ≤ j ∧ j ≤ 9 ∨ j = 12) ∨ x = 203 ∧ j = k) M M') := by
  constructor
  · intro h u
    have hb := pm_bad (d + 2) c hM 3 u
    rw [if_neg (by omega)] at hb
    rw [qB_t h] at ht
    refine (en_180 (d + 3) 192 (nI k) _).trans ?_
    refine go_ald_2_0 rfl ?_
    refine go_getr rfl ⟨_, rfl, rfl, by decide, by decide⟩ ?_
    refine go_ild_2_1 rfl ?_
    refine go_zald (j := k) rfl (⟨rfl, by decide, by decide, by decide⟩) (rfl) (by omega) ?_
    rw [show (qj u M).1 203 k = 1 from ht]
    refine go_ifeq rfl (fun e => ?_) (fun e => ?_)
    · exact absurd e (by decide)
    · refine go_ald_2_0 rfl ?_
      refine go_c rfl ?_
      refine go_call2 rfl (hb) (Nat.le_of_ble_eq_true rfl) (qb_qv rfl (by decide) (by decide)) ?_
      exact fin_i rfl rfl rfl
  · intro h
    rw [qB_f (by rw [h]; decide)] at ht
    obtain ⟨M', m1, m2, m3⟩ := pm_go d c (hM.mv (P := fun x j => x = 203 ∧ j = k) (qG.rf.ui (v := 1) ⟨rfl, rfl⟩) (fun x k h => by omega))
    refine ⟨M', fun u => ?_, m2, (m3.i (by omega)).trans qb_ui_1s, (qG.rf.ui (by omega)).tr (m3.mo (fun x k h => by omega))⟩
    refine (en_180 (d + 3) 192 (nI k) _).trans ?_
    refine go_ald_2_0 rfl ?_
    refine go_getr rfl ⟨_, rfl, rfl, by decide, by decide⟩ ?_
    refine go_ild_2_1 rfl ?_
    refine go_zald (j := k) rfl (⟨rfl, by decide, by decide, by decide⟩) (rfl) (by omega) ?_
    rw [show (qj u M).1 203 k = 0 from ht]
    refine go_ifeq rfl (fun e => ?_) (fun e => ?_)
    · refine go_ald_2_0 rfl ?_
      refine go_getr rfl ⟨_, rfl, rfl, by decide, by decide⟩ ?_
      refine go_ild_2_1 rfl ?_
      refine go_c rfl ?_
      refine go_zast (j := k) rfl (⟨rfl, by decide, by decide, by decide⟩) (rfl) (by omega) rfl ?_
      rw [qj_UI (by decide)]
      refine go_ald_2_0 rfl ?_
      refine go_call1 rfl (m1 u) (Nat.le_of_ble_eq_true rfl) (qb_qv rfl (by decide) (by decide)) ?_
      refine go_c rfl ?_
      exact fin_i rfl rfl rfl
    · exact absurd rfl e
/-- one draft of a board, as both have it -/
def bD (M : qb_M) (nw nm ns V F0 : Nat) (lo hi se : Nat → Nat) (wt vt : Bool) : Prop := qZp M 139 195 0 200 0 nw nm ns V F0 lo hi se ∧ (M.1 139 11 = qB (wt = true) ∧ M.1 203 0 = qB (wt = true)) ∧ (M.1 139 12 = qB (vt = true) ∧ M.1 203 1 = qB (vt = true))
def bE (M : qb_M) : Prop := ∃ nw nm ns V F0 lo hi se wt vt, bD M nw nm ns V F0 lo hi se wt vt
theorem rC_j {A B : qb_M} {n l : Nat} {b : Nat → Nat} {p : Nat} (h : rC A n l b p) : rC (qj A B) n l b p := h.mv qj_lo (fun x k hx => by omega)
theorem rM_j {A B : qb_M} {n l : Nat} {b : Nat → Nat} {p : Nat} (h : rM B n l b p) : rM (qj A B) n l b p := h.mv qj_hi (fun x k hx => by omega)
theorem bo_fail {d d' k k' : Nat} {As As' : List Value} {c : Nat × Nat} {M A B : qb_M} {n l : Nat} {b : Nat → Nat} {p pl f : Nat} {G : qb_M → Prop} {P Q P1 Q1 : Nat → Nat → Prop} (h1 : ∀ u, qe d k As (qb_hp (qj M u), 149, c) = some (some (.int (0)), (qb_hp (qj (fC A f pl) u), 149, c))) (h2 : ∀ u, qe d' k' As' (qb_hp (qj u M), 149, c) = some (some (.int (0)), (qb_hp (qj u (fM B f pl)), 149, c))) (hpl : pl ≤ 940) (gA : qG P1 M A) (gB : qG Q1 M B) (hQ : ∀ x j, (x < 192 ∧ (P1 x j ∨ x = 65 ∧ (j = 2 ∨ j = 3)) ∨ ¬ x < 192 ∧ (Q1 x j ∨ x = 192 ∧ (j = 10 ∨ j = 11))) → Q x j) : ∃ M' r, (∀ u, qe d k As (qb_hp (qj M u), 149, c) = some (some (.int (r)), (qb_hp (qj M' u), 149, c))) ∧ (∀ u, qe d' k' As' (qb_hp (qj u M), 149, c) = some (some (.int (r)), (qb_hp (qj u M'), 149, c))) ∧ rO P Q n l b p M M' r G := by
  refine ⟨qj (fC A f pl) (fM B f pl), 0, fun u => by rw [qj_j]; exact h1 u, fun u => by rw [qj_J]; exact h2 u, Or.inr ⟨rfl, fR_of hpl, ?_⟩⟩
  have gA2 : qG (fun x j => P1 x j ∨ x = 65 ∧ (j = 2 ∨ j = 3)) M (fC A f pl) := (gA.mo (fun x j h => Or.inl h)).tr (fC_G.mo (fun x j h => Or.inr h))
  have gB2 : qG (fun x j => Q1 x j ∨ x = 192 ∧ (j = 10 ∨ j = 11)) M (fM B f pl) := (gB.mo (fun x j h => Or.inl h)).tr (fM_G.mo (fun x j h => Or.inr h))
  exact (qj_G gA2 gB2).mo hQ
theorem bo_good {d d' k k' : Nat} {As As' : List Value} {c : Nat × Nat} {M A B : qb_M} {n l : Nat} {b : Nat → Nat} {p p' : Nat} {G : qb_M → Prop} {P Q P1 Q1 : Nat → Nat → Prop} (h1 : ∀ u, qe d k As (qb_hp (qj M u), 149, c) = some (some (.int (1)), (qb_hp (qj A u), 149, c))) (h2 : ∀ u, qe d' k' As' (qb_hp (qj u M), 149, c) = some (some (.int (1)), (qb_hp (qj u B), 149, c))) (hp : p < p') (hA : rC A n l b p') (hB : rM B n l b p') (hG : G (qj A B)) (gA : qG P1 M A) (gB : qG Q1 M B) (hP : ∀ x j, (x < 192 ∧ P1 x j ∨ ¬ x < 192 ∧ Q1 x j) → P x j) : ∃ M' r, (∀ u, qe d k As (qb_hp (qj M u), 149, c) = some (some (.int (r)), (qb_hp (qj M' u), 149, c))) ∧ (∀ u, qe d' k' As' (qb_hp (qj u M), 149, c) = some (some (.int (r)), (qb_hp (qj u M'), 149, c))) ∧ rO P Q n l b p M M' r G := ⟨qj A B, 1, fun u => by rw [qj_j]; exact h1 u, fun u => by rw [qj_J]; exact h2 u, Or.inl ⟨rfl, ⟨p', hp, rC_j hA, rM_j hB⟩, hG, (qj_G gA gB).mo hP⟩⟩
theorem tx_p9 {M : qb_M} {n l : Nat} {b : Nat → Nat} {p : Nat} (h : rC M n l b p) : tx_p n l b p ≤ 940 := Nat.le_trans (tx_p_le h.1) h.2.1.1.1
theorem tx_nm_lt {b : Nat → Nat} {q : Nat} : ∀ m, tx_D b q m = true → tx_nm b q m < 10 ^ m
  | 0, _ => Nat.lt_succ_self 0
  | m + 1, h => by
    obtain ⟨h1, h2⟩ := tx_D_s h
    have h3 := tx_nm_lt m h1
    unfold tx_d at h2
    rw [Bool.and_eq_true, decide_eq_true_eq, decide_eq_true_eq] at h2
    show tx_nm b q m * 10 + (b (q + m) - 48) < 10 ^ (m + 1)
    rw [Nat.pow_succ]
    omega
theorem tx_n9 {n l : Nat} {b : Nat → Nat} {p : Nat} (h : tx_k n l b p = 3) : tx_n n b p < 1000 := by
  unfold tx_k at h
  unfold tx_n
  by_cases hl : l < n ∧ l ≤ tx_q n b p
  · rw [if_pos hl] at h; cases h
  · rw [if_neg hl] at h
    by_cases he : n ≤ tx_q n b p
    · rw [if_pos he] at h; cases h
    · rw [if_neg he] at h
      by_cases hr : (tx_a (b (tx_q n b p)) || tx_d (b (tx_q n b p))) = true
      · rw [if_pos hr] at h
        by_cases hA : tx_A b (tx_q n b p) (tx_r n b (tx_q n b p) - tx_q n b p) = true ∧ tx_r n b (tx_q n b p) - tx_q n b p ≤ 7
        · rw [if_pos hA] at h; cases h
        · rw [if_neg hA] at h
          by_cases hD : tx_D b (tx_q n b p) (tx_r n b (tx_q n b p) - tx_q n b p) = true ∧ tx_r n b (tx_q n b p) - tx_q n b p ≤ 3
          · have h1 := tx_nm_lt _ hD.1
            have h2 : 10 ^ (tx_r n b (tx_q n b p) - tx_q n b p) ≤ 10 ^ 3 := Nat.pow_le_pow_right (by decide) hD.2
            omega
          · rw [if_neg hD] at h; cases h
      · rw [if_neg hr] at h
        split at h
        · rename_i hs
          rw [h] at hs
          exact absurd hs (by decide)
        · cases h
/-- a number between two others -/
theorem tx_rng {v x y : Nat} (hv : v < 1000) (hx : x < 1000) (hy : y < 1000) (h : nI x ≤ nI v ∧ nI v ≤ nI y) : x ≤ v ∧ v ≤ y := ⟨(nI_leI (by omega) (by omega)).mp h.1, (nI_leI (by omega) (by omega)).mp h.2⟩
/-- how many wires -/
theorem bo_wires (d d' : Nat) (c : Nat × Nat) {M : qb_M} {n l : Nat} {b : Nat → Nat} {p : Nat} (hC : rC M n l b p) (hM : rM M n l b p) (hk : tx_k n l b p = 2) {nw nm ns V F0 : Nat} {lo hi se : Nat → Nat} {wt vt : Bool} (hB : bD M nw nm ns V F0 lo hi se wt vt) : ∃ M' r, (∀ u, qe (d + 5) 29 [.ref 139, .ref 65] (qb_hp (qj M u), 149, c) = some (some (.int (r)), (qb_hp (qj M' u), 149, c))) ∧ (∀ u, qe (d' + 6) 178 [.ref 192] (qb_hp (qj u M), 149, c) = some (some (.int (r)), (qb_hp (qj u M'), 149, c))) ∧ rO bF bG n l b p M M' r bE := by
  obtain ⟨hZ, ⟨w1, w2⟩, v1, v2⟩ := id hB
  have hm6 : M.1 139 6 = nI nm := hZ.2.1.2.1
  have hr1 : M.1 195 1 = nI nm := hZ.2.2.1.2.1
  have hnm := hZ.1.2.2.1
  have hbad : ∀ u, qe (d' + 5) 179 [.ref 192, .int (nI 3)] (qb_hp (qj u M), 149, c) = some (some (.int (0)), (qb_hp (qj u (fM M 3 (tx_p n l b p))), 149, c)) := fun u => by
    have hb := pm_bad (d' + 4) c hM 3 u
    rw [if_neg (by omega)] at hb
    exact hb
  obtain ⟨f1, f2⟩ := pm_fresh (d' + 1) c hM hk 0 (by decide) (t := wt) w2
  by_cases hw : wt = true ∨ 0 < nm
  · refine bo_fail (A := M) (B := M) (f := 3) (pl := tx_p n l b p) (P1 := fun x k => x = 65 ∧ k = 2) (Q1 := fun x k => x = 192 ∧ k = 10) (fun u => ?_) (fun u => ?_) (tx_p9 hC) qG.rf qG.rf (fun x j h => by unfold bG; omega)
    · refine (en_29 (d + 4) 139 65 _).trans ?_
      refine go_ald_2_0 rfl ?_
      refine go_geti rfl ⟨_, rfl, rfl, by decide, by decide⟩ ?_
      rw [show (qj M u).1 139 11 = qB (wt = true) from w1]
      have no : qa_lm (qe (d + 4)) (qa_cd qc_29) (14, [.ref 139, .ref 65], [], (qb_hp (qj M u), 149, c)) = some (some (.int (0)), (qb_hp (qj (fC M 3 (tx_p n l b p)) u), 149, c)) := by
        refine go_ald_2_1 rfl ?_
        refine go_c rfl ?_
        refine go_call2 rfl (pc_fail (d + 3) c hC 3 u) (Nat.le_of_ble_eq_true rfl) (qb_qv rfl (by decide) (by decide)) ?_
        exact fin_i rfl rfl rfl
      refine go_ifne rfl (fun e => ?_) (fun e => ?_)
      · refine go_ald_2_0 rfl ?_
        refine go_geti rfl ⟨_, rfl, rfl, by decide, by decide⟩ ?_
        rw [show (qj M u).1 139 6 = nI nm from hm6]
        refine go_ifle rfl (fun e2 => ?_) (fun e2 => ?_)
        · exact absurd (hw.resolve_left (qB_0.mp e)) (fun z => absurd e2 (nI_nle z (by omega)))
        · exact no
      · exact no
    · refine (en_178 (d' + 5) 192 _).trans ?_
      refine go_ald_1_0 rfl ?_
      refine go_getr rfl ⟨_, rfl, rfl, by decide, by decide⟩ ?_
      refine go_c rfl ?_
      refine go_iald (j := 1) rfl ⟨rfl, by decide, by decide, by decide⟩ rfl (by decide) ?_
      rw [show (qj u M).1 195 1 = nI nm from hr1]
      refine go_ifle rfl (fun e => ?_) (fun e => ?_)
      · have hw : wt = true := hw.resolve_right (fun z => absurd e (nI_nle z (by omega)))
        refine go_ald_1_0 rfl ?_
        refine go_c rfl ?_
        refine go_call2 rfl (f1 hw u) (Nat.le_of_ble_eq_true rfl) (qb_qv rfl (by decide) (by decide)) ?_
        refine go_ifeq rfl (fun e2 => ?_) (fun e2 => ?_)
        · refine go_c rfl ?_
          exact fin_i rfl rfl rfl
        · exact absurd rfl e2
      · refine go_ald_1_0 rfl ?_
        refine go_c rfl ?_
        refine go_call2 rfl (hbad u) (Nat.le_of_ble_eq_true rfl) (qb_qv rfl (by decide) (by decide)) ?_
        exact fin_i rfl rfl rfl
  · have hwt : wt = false := eq_false_of_ne_true (fun z => hw (Or.inl z))
    have hn0 : nm = 0 := Nat.eq_zero_of_not_pos (fun z => hw (Or.inr z))
    obtain ⟨A1, a1, a2, a3⟩ := pc_step (d + 1) c hC
    obtain ⟨B1, b1, b2, b3, b4⟩ := f2 hwt
    have hpe := tx_e_lt hC.1 (by omega) (by omega : tx_k n l b p ≠ 1)
    have enC : ∀ u R, qa_lm (qe (d + 4)) (qa_cd qc_29) (24, [.ref 139, .ref 65], [], (qb_hp (qj A1 u), 149, c)) = R → qe (d + 5) 29 [.ref 139, .ref 65] (qb_hp (qj M u), 149, c) = R := fun u R hR => by
      refine (en_29 (d + 4) 139 65 _).trans ?_
      refine go_ald_2_0 rfl ?_
      refine go_geti rfl ⟨_, rfl, rfl, by decide, by decide⟩ ?_
      rw [show (qj M u).1 139 11 = qB (wt = true) from w1, hwt]
      refine go_ifne rfl (fun e => ?_) (fun e => ?_)
      · refine go_ald_2_0 rfl ?_
        refine go_geti rfl ⟨_, rfl, rfl, by decide, by decide⟩ ?_
        rw [show (qj M u).1 139 6 = nI nm from hm6, hn0]
        refine go_ifle rfl (fun e2 => ?_) (fun e2 => ?_)
        · refine go_ald_2_1 rfl ?_
          refine go_call1 rfl (a1 u) (Nat.le_of_ble_eq_true rfl) (qb_qv rfl (by decide) (by decide)) ?_
          exact hR
        · exact absurd (Int32.le_refl _) e2
      · exact absurd rfl e
    have enM : ∀ u R, qa_lm (qe (d' + 5)) (qa_cd qc_178) (23, [.ref 192], [], (qb_hp (qj u B1), 149, c)) = R → qe (d' + 6) 178 [.ref 192] (qb_hp (qj u M), 149, c) = R := fun u R hR => by
      refine (en_178 (d' + 5) 192 _).trans ?_
      refine go_ald_1_0 rfl ?_
      refine go_getr rfl ⟨_, rfl, rfl, by decide, by decide⟩ ?_
      refine go_c rfl ?_
      refine go_iald (j := 1) rfl ⟨rfl, by decide, by decide, by decide⟩ rfl (by decide) ?_
      rw [show (qj u M).1 195 1 = nI nm from hr1, hn0]
      refine go_ifle rfl (fun e => ?_) (fun e => ?_)
      · refine go_ald_1_0 rfl ?_
        refine go_c rfl ?_
        refine go_call2 rfl (b1 u) (Nat.le_of_ble_eq_true rfl) (qb_qv rfl (by decide) (by decide)) ?_
        refine go_ifeq rfl (fun e2 => ?_) (fun e2 => ?_)
        · exact absurd e2 (by decide)
        · exact hR
      · exact absurd (Int32.le_refl _) e
    rcases nb_both (d + 2) (d' + 1) c a2 b2 2 8 with ⟨k3, hr, n1, B2, n2, n3, n4, n5⟩ | ⟨f, n1, n2⟩
    · obtain ⟨A3, e1, e2, e3⟩ := pc_step (d + 1) c (a2.mv (P := fun x k => x = 139 ∧ (k = 5 ∨ k = 11)) (N := qb_ui (qb_ui A1 139 5 (nI (tx_n n b (tx_e n l b p)))) 139 11 1) ((qG.rf.ui (by omega)).ui (by omega)) (fun x k h => by omega))
      have h8 : A1.1 65 8 = nI (tx_n n b (tx_e n l b p)) := a2.2.2.2.2.2.2.2 k3
      have hpe2 := tx_e_lt a2.1 (by omega) (by omega : tx_k n l b (tx_e n l b p) ≠ 1)
      obtain ⟨v, hv⟩ : ∃ v, v = tx_n n b (tx_e n l b p) := ⟨_, rfl⟩
      rw [← hv] at hr h8 n4 e1 e3
      have hv9 : 2 ≤ v ∧ v ≤ 8 := tx_rng (by rw [hv]; exact tx_n9 k3) (by decide) (by decide) hr
      have gA : qG (fun x k => x = 65 ∧ 5 ≤ k ∧ k ≤ 10 ∨ x = 139 ∧ (k = 5 ∨ k = 11)) M A3 := ((a3.mo (fun x k h => Or.inl h)).tr ((qG.rf.ui (by omega)).ui (by omega))).tr (e3.mo (fun x k h => Or.inl h))
      have gB : qG (fun x k => x = 192 ∧ (5 ≤ k ∧ k ≤ 9 ∨ k = 12 ∨ k = 13) ∨ x = 203 ∧ k = 0 ∨ x = 195 ∧ k = 0) M (qb_ui B2 195 0 (nI v)) := ((b4.mo (fun x k h => by omega)).tr (n5.mo (fun x k h => by omega))).ui (by omega)
      refine bo_good (A := A3) (B := qb_ui B2 195 0 (nI v)) (p' := tx_e n l b (tx_e n l b p)) (P1 := fun x k => x = 65 ∧ 5 ≤ k ∧ k ≤ 10 ∨ x = 139 ∧ (k = 5 ∨ k = 11)) (Q1 := fun x k => x = 192 ∧ (5 ≤ k ∧ k ≤ 9 ∨ k = 12 ∨ k = 13) ∨ x = 203 ∧ k = 0 ∨ x = 195 ∧ k = 0) (fun u => enC u _ ?_) (fun u => enM u _ ?_) (by omega) e2 (n3.mv (P := fun x k => x = 195) (qG.rf.ui rfl) (fun x k h => by omega)) ?_ gA gB (fun x j h => by unfold bF; omega)
      · refine go_ald_2_1 rfl ?_
        refine go_c rfl ?_
        refine go_c rfl ?_
        refine go_call3 rfl (n1 u) (Nat.le_of_ble_eq_true rfl) (qb_qv rfl (by decide) (by decide)) ?_
        refine go_ifne rfl (fun e => ?_) (fun e => ?_)
        · exact absurd e (by decide)
        · refine go_ald_2_0 rfl ?_
          refine go_ald_2_1 rfl ?_
          refine go_geti rfl ⟨_, rfl, rfl, by decide, by decide⟩ ?_
          rw [show (qj A1 u).1 65 8 = nI v from h8]
          refine go_puti rfl ⟨_, rfl, rfl, by decide, by decide⟩ rfl rfl ?_
          rw [qj_ui (by decide)]
          refine go_ald_2_0 rfl ?_
          refine go_c rfl ?_
          refine go_puti rfl ⟨_, rfl, rfl, by decide, by decide⟩ rfl rfl ?_
          rw [qj_ui (by decide)]
          refine go_ald_2_1 rfl ?_
          refine go_call1 rfl (e1 u) (Nat.le_of_ble_eq_true rfl) (qb_qv rfl (by decide) (by decide)) ?_
          refine go_c rfl ?_
          exact fin_i rfl rfl rfl
      · have hpt := pm_put1 (d' + 4) (qj u B2) c 0 (by decide)
        rw [show (qj u B2).1 192 13 = nI v from n4, qj_UI (by decide)] at hpt
        refine go_ald_1_0 rfl ?_
        refine go_c rfl ?_
        refine go_ald_1_0 rfl ?_
        refine go_c rfl ?_
        refine go_c rfl ?_
        refine go_call3 rfl (n2 u) (Nat.le_of_ble_eq_true rfl) (qb_qv rfl (by decide) (by decide)) ?_
        refine go_call3 rfl (hpt) (Nat.le_of_ble_eq_true rfl) (qb_qv rfl (by decide) (by decide)) ?_
        refine go_ifeq rfl (fun e => ?_) (fun e => ?_)
        · exact absurd e (by decide)
        · refine go_c rfl ?_
          refine go_goto rfl ?_
          exact fin_i rfl rfl rfl
      · have gJ := qj_G gA gB
        obtain ⟨z0, ⟨z1, z2, z3, z4, z5⟩, ⟨y1, y2, y3, y4, y5⟩, z6, z7⟩ := hZ
        subst hn0
        refine ⟨v, 0, ns, V, F0, lo, hi, se, true, vt, ⟨⟨hv9.1, hv9.2, z0.2.2.1, z0.2.2.2.1, z0.2.2.2.2.1, z0.2.2.2.2.2⟩, ⟨?_, (gJ.i (by omega)).trans z2, (gJ.i (by omega)).trans z3, (gJ.i (by omega)).trans z4, (gJ.i (by omega)).trans z5⟩, ⟨(show (qb_ui B2 195 0 (nI v)).1 195 0 = nI v from qb_ui_1s), (gJ.i (by omega)).trans y2, (gJ.i (by omega)).trans y3, (gJ.i (by omega)).trans y4, (gJ.i (by omega)).trans y5⟩, fun k hk => absurd hk (Nat.not_lt_zero k), fun k hk => absurd (z7 k hk).1 (Nat.not_lt_zero _)⟩, ⟨?_, ?_⟩, (gJ.i (by omega)).trans v1, (gJ.i (by omega)).trans v2⟩
        · show A3.1 139 5 = nI v
          exact (e3.i (by omega)).trans ((qb_ui_1n (Or.inr (by decide))).trans qb_ui_1s)
        · show A3.1 139 11 = 1
          exact (e3.i (by omega)).trans qb_ui_1s
        · show (qb_ui B2 195 0 (nI v)).1 203 0 = 1
          exact (qb_ui_1n (Or.inl (by decide))).trans ((n5.i (by omega)).trans b3)
    · refine bo_fail (A := A1) (B := B1) (f := f) (pl := tx_p n l b (tx_e n l b p)) (P1 := fun x k => x = 65 ∧ 5 ≤ k ∧ k ≤ 10) (Q1 := fun x j => x = 192 ∧ (5 ≤ j ∧ j ≤ 9 ∨ j = 12) ∨ x = 203 ∧ j = 0) (fun u => enC u _ ?_) (fun u => enM u _ ?_) (tx_p9 a2) a3 b4 (fun x j h => by unfold bG bF; omega)
      · refine go_ald_2_1 rfl ?_
        refine go_c rfl ?_
        refine go_c rfl ?_
        refine go_call3 rfl (n1 u) (Nat.le_of_ble_eq_true rfl) (qb_qv rfl (by decide) (by decide)) ?_
        refine go_ifne rfl (fun e => ?_) (fun e => ?_)
        · refine go_c rfl ?_
          exact fin_i rfl rfl rfl
        · exact absurd rfl e
      · refine go_ald_1_0 rfl ?_
        refine go_c rfl ?_
        refine go_ald_1_0 rfl ?_
        refine go_c rfl ?_
        refine go_c rfl ?_
        refine go_call3 rfl (n2 u) (Nat.le_of_ble_eq_true rfl) (qb_qv rfl (by decide) (by decide)) ?_
        refine go_call3 rfl (pm_put0 (d' + 4) _ c 0) (Nat.le_of_ble_eq_true rfl) (qb_qv rfl (by decide) (by decide)) ?_
        refine go_ifeq rfl (fun e => ?_) (fun e => ?_)
        · refine go_c rfl ?_
          exact fin_i rfl rfl rfl
        · exact absurd rfl e
