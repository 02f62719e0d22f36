/-! readers: what both do with the token at hand -/
theorem tx_e_le {n l : Nat} {b : Nat → Nat} {p : Nat} (hp : p ≤ n) : tx_e n l b p ≤ n := by
  obtain ⟨⟨q1, q2⟩, q3, q4⟩ := tx_q_ok (n := n) (b := b) hp
  obtain ⟨⟨r1, r2⟩, r3, r4⟩ := tx_r_ok (n := n) (b := b) (q := tx_q n b p) q2
  unfold tx_e
  split
  · exact q2
  · split
    · exact q2
    · split <;> omega
theorem tx_e_lt {n l : Nat} {b : Nat → Nat} {p : Nat} (hp : p ≤ n) (h0 : tx_k n l b p ≠ 0) (h1 : tx_k n l b p ≠ 1) : p < tx_e n l b p := by
  obtain ⟨⟨q1, q2⟩, q3, q4⟩ := tx_q_ok (n := n) (b := b) hp
  obtain ⟨⟨r1, r2⟩, r3, r4⟩ := tx_r_ok (n := n) (b := b) (q := tx_q n b p) q2
  unfold tx_k at h0 h1
  unfold tx_e
  by_cases hl : l < n ∧ l ≤ tx_q n b p
  · rw [if_pos hl] at h1; exact absurd rfl h1
  · rw [if_neg hl] at h0 ⊢
    by_cases he : n ≤ tx_q n b p
    · rw [if_pos he] at h0; exact absurd rfl h0
    · rw [if_neg he]
      by_cases hr : (tx_a (b (tx_q n b p)) || tx_d (b (tx_q n b p))) = true
      · rw [if_pos hr]
        have hne : tx_q n b p < tx_r n b (tx_q n b p) := Classical.byContradiction fun z => by
          have hz : tx_r n b (tx_q n b p) = tx_q n b p := by omega
          rw [hz] at r4
          exact r4 (by omega) hr
        omega
      · rw [if_neg hr]
        omega
theorem tx_p_le {n l : Nat} {b : Nat → Nat} {p : Nat} (hp : p ≤ n) : tx_p n l b p ≤ n := by
  obtain ⟨⟨q1, q2⟩, q3, q4⟩ := tx_q_ok (n := n) (b := b) hp
  unfold tx_p
  split <;> omega
def rC (M : qb_M) (n l : Nat) (b : Nat → Nat) (p : Nat) : Prop := p ≤ n ∧ tx_F M n l b ∧ tx_C M n l b p
def rM (M : qb_M) (n l : Nat) (b : Nat → Nat) (p : Nat) : Prop := p ≤ n ∧ tx_G M n l b ∧ tx_M M n l b p
theorem rC.mv {P : Nat → Nat → Prop} {M N : qb_M} {n l : Nat} {b : Nat → Nat} {p : Nat} (h : rC M n l b p) (hf : qG P M N) (hd : ∀ x k, x = 65 ∧ (k = 1 ∨ 4 ≤ k ∧ k ≤ 10) ∨ x = 66 → ¬ P x k) : rC N n l b p := by
  obtain ⟨h0, h1, h2, h3, h4, h5, h6, h7⟩ := h
  refine ⟨h0, h1.mv hf (fun x k hx => hd x k (by omega)), (hf.i (hd _ _ (by omega))).trans h2, (hf.i (hd _ _ (by omega))).trans h3, (hf.i (hd _ _ (by omega))).trans h4, fun q => ⟨(hf.l (hd _ _ (by omega))).trans (h5 q).1, (hf.p (hd _ _ (by omega))).trans (h5 q).2⟩, fun q => (hf.p (hd _ _ (by omega))).trans (h6 q), fun q => (hf.i (hd _ _ (by omega))).trans (h7 q)⟩
theorem rM.mv {P : Nat → Nat → Prop} {M N : qb_M} {n l : Nat} {b : Nat → Nat} {p : Nat} (h : rM M n l b p) (hf : qG P M N) (hd : ∀ x k, x = 192 ∧ (3 ≤ k ∧ k ≤ 9 ∨ k = 12) ∨ x = 193 → ¬ P x k) : rM N n l b p := by
  obtain ⟨h0, h1, h2, h3, h4, h5, h6, h7⟩ := h
  refine ⟨h0, h1.mv hf (fun x k hx => hd x k (by omega)), (hf.i (hd _ _ (by omega))).trans h2, (hf.i (hd _ _ (by omega))).trans h3, (hf.i (hd _ _ (by omega))).trans h4, fun q => (hf.i (hd _ _ (by omega))).trans (h5 q), fun q => (hf.l (hd _ _ (by omega))).trans (h6 q), fun q => (hf.i (hd _ _ (by omega))).trans (h7 q)⟩
/-- the component's part of one memory, the reference's of another -/
theorem qj_j {M N u : qb_M} : qj (qj M N) u = qj M u := by
  have h : ∀ {α : Type} (f g h : Nat → Nat → α), (fun a k => if a < 192 then (if a < 192 then f a k else g a k) else h a k) = fun a k => if a < 192 then f a k else h a k := fun f g h => funext fun a => funext fun k => by split <;> rfl
  exact Prod.ext (h _ _ _) (Prod.ext (h _ _ _) (h _ _ _))
theorem qj_J {M N u : qb_M} : qj u (qj M N) = qj u N := by
  have h : ∀ {α : Type} (f g h : Nat → Nat → α), (fun a k => if a < 192 then h a k else (if a < 192 then f a k else g a k)) = fun a k => if a < 192 then h a k else g a k := fun f g h => funext fun a => funext fun k => by split <;> rfl
  exact Prod.ext (h _ _ _) (Prod.ext (h _ _ _) (h _ _ _))
theorem qj_G {P Q : Nat → Nat → Prop} {M A B : qb_M} (hA : qG P M A) (hB : qG Q M B) : qG (fun x k => x < 192 ∧ P x k ∨ ¬ x < 192 ∧ Q x k) M (qj A B) := fun x k h => by
  by_cases hx : x < 192
  · rw [qj_i hx, qj_l hx, qj_p hx]
    exact hA x k (fun z => h (Or.inl ⟨hx, z⟩))
  · rw [qj_I hx, qj_L hx, qj_P hx]
    exact hB x k (fun z => h (Or.inr ⟨hx, z⟩))
theorem qj_lo {M N : qb_M} : qG (fun x _ => ¬ x < 192) M (qj M N) := fun x k h => by
  have hx : x < 192 := Classical.byContradiction h
  exact ⟨qj_i hx, qj_l hx, qj_p hx⟩
theorem qj_hi {M N : qb_M} : qG (fun x _ => x < 192) N (qj M N) := fun x k h => ⟨qj_I h, qj_L h, qj_P h⟩
/-- faults -/
def fC (M : qb_M) (f pl : Nat) : qb_M := qb_ui (qb_ui M 65 2 (nI f)) 65 3 (nI pl)
def fM (M : qb_M) (f pl : Nat) : qb_M := qb_ui (qb_ui M 192 10 (nI f)) 192 11 (nI pl)
theorem fC_G {M : qb_M} {f pl : Nat} : qG (fun x k => x = 65 ∧ (k = 2 ∨ k = 3)) M (fC M f pl) := (qG.rf.ui (by omega)).ui (by omega)
theorem fM_G {M : qb_M} {f pl : Nat} : qG (fun x k => x = 192 ∧ (k = 10 ∨ k = 11)) M (fM M f pl) := (qG.rf.ui (by omega)).ui (by omega)
theorem pc_fail (d : Nat) (c : Nat × Nat) {M : qb_M} {n l : Nat} {b : Nat → Nat} {p : Nat} (hC : rC M n l b p) (f : Nat) (u : qb_M) : qe (d + 1) 30 [.ref 65, .int (nI f)] (qb_hp (qj M u), 149, c) = some (some (.int (0)), (qb_hp (qj (fC M f (tx_p n l b p)) u), 149, c)) := by
  refine (en_30 d 65 (nI f) _).trans ?_
  refine go_ald_2_0 rfl ?_
  refine go_ild_2_1 rfl ?_
  refine go_puti rfl ⟨_, rfl, rfl, by decide, by decide⟩ rfl rfl ?_
  rw [qj_ui (by decide)]
  refine go_ald_2_0 rfl ?_
  refine go_ald_2_0 rfl ?_
  refine go_geti rfl ⟨_, rfl, rfl, by decide, by decide⟩ ?_
  rw [show (qj (qb_ui M 65 2 (nI f)) u).1 65 6 = nI (tx_p n l b p) from hC.2.2.2.1]
  refine go_puti rfl ⟨_, rfl, rfl, by decide, by decide⟩ rfl rfl ?_
  rw [qj_ui (by decide)]
  refine go_c rfl ?_
  exact fin_i rfl rfl rfl
theorem pm_bad (d : Nat) (c : Nat × Nat) {M : qb_M} {n l : Nat} {b : Nat → Nat} {p : Nat} (hM : rM M n l b p) (f : Nat) (u : qb_M) : qe (d + 1) 179 [.ref 192, .int (nI f)] (qb_hp (qj u M), 149, c) = some (some (.int (0)), (qb_hp (qj u (fM M (if tx_k n l b p = 1 then 1 else f) (tx_p n l b p))), 149, c)) := by
  have h7 : (qj u M).1 192 7 = nI (if 4 ≤ tx_k n l b p then 4 else tx_k n l b p) := hM.2.2.2.2.1
  have tail : ∀ g : Nat, qa_lm (qe (d)) (qa_cd qc_179) (17, [.ref 192, .int (nI f)], [], (qb_hp (qj u (qb_ui M 192 10 (nI g))), 149, c)) = some (some (.int (0)), (qb_hp (qj u (fM M g (tx_p n l b p))), 149, c)) := fun g => by
    refine go_ald_2_0 rfl ?_
    refine go_ald_2_0 rfl ?_
    refine go_geti rfl ⟨_, rfl, rfl, by decide, by decide⟩ ?_
    rw [show (qj u (qb_ui M 192 10 (nI g))).1 192 6 = nI (tx_p n l b p) from hM.2.2.2.1]
    refine go_puti rfl ⟨_, rfl, rfl, by decide, by decide⟩ rfl rfl ?_
    rw [qj_UI (by decide)]
    refine go_c rfl ?_
    exact fin_i rfl rfl rfl
  refine (en_179 d 192 (nI f) _).trans ?_
  refine go_ald_2_0 rfl ?_
  refine go_ald_2_0 rfl ?_
  refine go_geti rfl ⟨_, rfl, rfl, by decide, by decide⟩ ?_
  refine go_c rfl ?_
  rw [h7]
  refine go_icne rfl (fun e => ?_) (fun e => ?_)
  · have e : tx_k n l b p = 1 := by
      have := (nI_eq (b := 1) (by split <;> omega) (by decide)).mp e
      split at this
      · omega
      · exact this
    rw [if_pos e]
    refine go_c rfl ?_
    refine go_goto rfl ?_
    refine go_puti rfl ⟨_, rfl, rfl, by decide, by decide⟩ rfl rfl ?_
    rw [qj_UI (by decide)]
    exact tail 1
  · have e : ¬ tx_k n l b p = 1 := fun z => e (by rw [z]; rfl)
    rw [if_neg e]
    refine go_ild_2_1 rfl ?_
    refine go_puti rfl ⟨_, rfl, rfl, by decide, by decide⟩ rfl rfl ?_
    rw [qj_UI (by decide)]
    exact tail f
theorem pc_step (d : Nat) (c : Nat × Nat) {M : qb_M} {n l : Nat} {b : Nat → Nat} {p : Nat} (hC : rC M n l b p) : ∃ M', (∀ u, qe (d + 3) 20 [.ref 65] (qb_hp (qj M u), 149, c) = some (none, (qb_hp (qj M' u), 149, c))) ∧ rC M' n l b (tx_e n l b p) ∧ qG (fun x k => x = 65 ∧ 5 ≤ k ∧ k ≤ 10) M M' := by
  obtain ⟨M', h1, h2, h3⟩ := sp_step d c hC.2.1 (tx_e_le hC.1) hC.2.2.1
  exact ⟨M', h1, ⟨tx_e_le hC.1, hC.2.1.mv h3 (fun x k hx => by omega), h2⟩, h3⟩
theorem pm_go (d : Nat) (c : Nat × Nat) {M : qb_M} {n l : Nat} {b : Nat → Nat} {p : Nat} (hM : rM M n l b p) : ∃ M', (∀ u, qe (d + 3) 170 [.ref 192] (qb_hp (qj u M), 149, c) = some (none, (qb_hp (qj u M'), 149, c))) ∧ rM M' n l b (tx_e n l b p) ∧ qG (fun x k => x = 192 ∧ (5 ≤ k ∧ k ≤ 9 ∨ k = 12)) M M' := by
  obtain ⟨M', h1, h2, h3⟩ := sp_go d c hM.2.1 (tx_e_le hM.1) hM.2.2.1
  exact ⟨M', h1, ⟨tx_e_le hM.1, hM.2.1.mv h3 (fun x k hx => by omega), h2⟩, h3⟩
theorem tx_k9 {n l : Nat} {b : Nat → Nat} {p : Nat} : tx_k n l b p < 2 ^ 31 := by
  have := tx_k_kd (n := n) (l := l) (b := b) (p := p)
  omega
theorem pc_isAt (d : Nat) (c : Nat × Nat) {M : qb_M} {n l : Nat} {b : Nat → Nat} {p : Nat} (hC : rC M n l b p) (i : Nat) (hi : i < 23) (u : qb_M) : qe (d + 1) 28 [.ref 65, .ref i] (qb_hp (qj M u), 149, c) = some (some (.int (qB (tx_k n l b p = 2 ∧ tx_wd (tx_l n b p) = some i))), (qb_hp (qj M u), 149, c)) := sp_isAt d (qj M u) c tx_k9 hC.2.2.2.2.1 (fun h => (hC.2.2.2.2.2.1 h).2) (fun j hj => tx_wd_lt hj) i hi
theorem pc_isAtName (d : Nat) (c : Nat × Nat) {M : qb_M} {n l : Nat} {b : Nat → Nat} {p : Nat} (hC : rC M n l b p) (u : qb_M) : qe (d + 1) 34 [.ref 65] (qb_hp (qj M u), 149, c) = some (some (.int (qB (tx_k n l b p = 2 ∧ tx_wd (tx_l n b p) = none))), (qb_hp (qj M u), 149, c)) := sp_isAtName d (qj M u) c tx_k9 hC.2.2.2.2.1 (fun h => (hC.2.2.2.2.2.1 h).2)
theorem tx_m9 {n l : Nat} {b : Nat → Nat} {p : Nat} : (if 4 ≤ tx_k n l b p then 4 else tx_k n l b p) < 2 ^ 31 := by split <;> omega
theorem tx_m2 {n l : Nat} {b : Nat → Nat} {p : Nat} : (if 4 ≤ tx_k n l b p then 4 else tx_k n l b p) = 2 ↔ tx_k n l b p = 2 := by split <;> omega
theorem pm_isWord (d : Nat) (c : Nat × Nat) {M : qb_M} {n l : Nat} {b : Nat → Nat} {p : Nat} (hM : rM M n l b p) (k : Nat) (hk : k < 23) (u : qb_M) : qe (d + 3) 175 [.ref 192, .int (nI k)] (qb_hp (qj u M), 149, c) = some (some (.int (qB (tx_k n l b p = 2 ∧ tx_wd (tx_l n b p) = some (tx_pm k)))), (qb_hp (qj u M), 149, c)) := by
  have := sp_isWord d (qj u M) c (ls := tx_l n b p) tx_m9 hM.2.2.2.2.1 (fun h => ⟨hM.2.2.2.2.2.2.1 (tx_m2.mp h), tx_l_ok hM.1 (tx_m2.mp h)⟩) k hk
  rw [qB_c (show _ ↔ (tx_k n l b p = 2 ∧ tx_wd (tx_l n b p) = some (tx_pm k)) from and_congr_left (fun _ => tx_m2))] at this
  exact this
theorem pm_isName (d : Nat) (c : Nat × Nat) {M : qb_M} {n l : Nat} {b : Nat → Nat} {p : Nat} (hM : rM M n l b p) (u : qb_M) : qe (d + 3) 187 [.ref 192] (qb_hp (qj u M), 149, c) = some (some (.int (qB (tx_k n l b p = 2 ∧ tx_wd (tx_l n b p) = none))), (qb_hp (qj u M), 149, c)) := by
  have := sp_isName d (qj u M) c (ls := tx_l n b p) tx_m9 hM.2.2.2.2.1 (fun h => ⟨hM.2.2.2.2.2.2.1 (tx_m2.mp h), tx_l_ok hM.1 (tx_m2.mp h)⟩)
  rw [qB_c (show _ ↔ (tx_k n l b p = 2 ∧ tx_wd (tx_l n b p) = none) from and_congr_left (fun _ => tx_m2))] at this
  exact this
theorem pm_isSign (d : Nat) (c : Nat × Nat) {M : qb_M} {n l : Nat} {b : Nat → Nat} {p : Nat} (hM : rM M n l b p) (k : Nat) (hk : 4 ≤ k ∧ k < 256) (u : qb_M) : qe (d + 1) 191 [.ref 192, .int (nI k)] (qb_hp (qj u M), 149, c) = some (some (.int (qB (tx_k n l b p = k))), (qb_hp (qj u M), 149, c)) := by
  have hk9 := tx_k9 (n := n) (l := l) (b := b) (p := p)
  refine (en_191 d 192 (nI k) _).trans ?_
  refine go_ald_2_0 rfl ?_
  refine go_geti rfl ⟨_, rfl, rfl, by decide, by decide⟩ ?_
  refine go_c rfl ?_
  rw [show (qj u M).1 192 7 = nI (if 4 ≤ tx_k n l b p then 4 else tx_k n l b p) from hM.2.2.2.2.1]
  refine go_icne rfl (fun e => ?_) (fun e => ?_)
  · have e : 4 ≤ tx_k n l b p := by
      have := (nI_eq (b := 4) tx_m9 (by decide)).mp e
      split at this <;> omega
    refine go_ald_2_0 rfl ?_
    refine go_geti rfl ⟨_, rfl, rfl, by decide, by decide⟩ ?_
    refine go_ild_2_1 rfl ?_
    rw [show (qj u M).1 192 9 = nI (tx_k n l b p) from hM.2.2.2.2.2.1 e]
    refine go_icne rfl (fun e2 => ?_) (fun e2 => ?_)
    · refine go_c rfl ?_
      refine go_goto rfl ?_
      exact fin_i rfl rfl (qR_i (qB_t ((nI_eq hk9 (by omega)).mp e2)).symm)
    · refine go_c rfl ?_
      exact fin_i rfl rfl (qR_i (qB_f (fun z => e2 (by rw [z]))).symm)
  · refine go_c rfl ?_
    exact fin_i rfl rfl (qR_i (qB_f (fun z => e (by rw [z, if_pos hk.1]; rfl))).symm)
theorem pc_takeSign (d : Nat) (c : Nat × Nat) {M : qb_M} {n l : Nat} {b : Nat → Nat} {p : Nat} (hC : rC M n l b p) (k : Nat) (hk : k < 256) : (tx_k n l b p = k → ∃ M', (∀ u, qe (d + 4) 41 [.ref 65, .int (nI k)] (qb_hp (qj M u), 149, c) = some (some (.int (1)), (qb_hp (qj M' u), 149, c))) ∧ rC M' n l b (tx_e n l b p) ∧ qG (fun x k => x = 65 ∧ 5 ≤ k ∧ k ≤ 10) M M') ∧ (tx_k n l b p ≠ k → ∀ u, qe (d + 4) 41 [.ref 65, .int (nI k)] (qb_hp (qj M u), 149, c) = some (some (.int (0)), (qb_hp (qj (fC M 1 (tx_p n l b p)) u), 149, c))) := by
  have hk9 := tx_k9 (n := n) (l := l) (b := b) (p := p)
  constructor
  · intro h
    obtain ⟨M', m1, m2⟩ := pc_step d c hC
    refine ⟨M', fun u => ?_, m2⟩
    refine (en_41 (d + 3) 65 (nI k) _).trans ?_
    refine go_ald_2_0 rfl ?_
    refine go_geti rfl ⟨_, rfl, rfl, by decide, by decide⟩ ?_
    refine go_ild_2_1 rfl ?_
    rw [show (qj M u).1 65 7 = nI (tx_k n l b p) from hC.2.2.2.2.1]
    refine go_iceq rfl (fun e => ?_) (fun e => ?_)
    · refine go_ald_2_0 rfl ?_
      refine go_call1 rfl (m1 u) (Nat.le_of_ble_eq_true rfl) (qb_qv rfl (by decide) (by decide)) ?_
      refine go_c rfl ?_
      exact fin_i rfl rfl rfl
    · exact absurd (by rw [h]) e
  · intro h u
    refine (en_41 (d + 3) 65 (nI k) _).trans ?_
    refine go_ald_2_0 rfl ?_
    refine go_geti rfl ⟨_, rfl, rfl, by decide, by decide⟩ ?_
    refine go_ild_2_1 rfl ?_
    rw [show (qj M u).1 65 7 = nI (tx_k n l b p) from hC.2.2.2.2.1]
    refine go_iceq rfl (fun e => ?_) (fun e => ?_)
    · exact absurd ((nI_eq hk9 (by omega)).mp e) h
    · refine go_ald_2_0 rfl ?_
      refine go_c rfl ?_
      refine go_call2 rfl (pc_fail (d + 2) c hC 1 u) (Nat.le_of_ble_eq_true rfl) (qb_qv rfl (by decide) (by decide)) ?_
      exact fin_i rfl rfl rfl
theorem pm_readEnd (d : Nat) (c : Nat × Nat) {M : qb_M} {n l : Nat} {b : Nat → Nat} {p : Nat} (hM : rM M n l b p) : (tx_k n l b p = 59 → ∃ M', (∀ u, qe (d + 4) 190 [.ref 192] (qb_hp (qj u M), 149, c) = some (some (.int (1)), (qb_hp (qj u M'), 149, c))) ∧ rM M' n l b (tx_e n l b p) ∧ qG (fun x k => x = 192 ∧ (5 ≤ k ∧ k ≤ 9 ∨ k = 12)) M M') ∧ (tx_k n l b p ≠ 59 → ∀ u, qe (d + 4) 190 [.ref 192] (qb_hp (qj u M), 149, c) = some (some (.int (0)), (qb_hp (qj u (fM M 1 (tx_p n l b p))), 149, c))) := by
  constructor
  · intro h
    obtain ⟨M', m1, m2⟩ := pm_go d c hM
    refine ⟨M', fun u => ?_, m2⟩
    refine (en_190 (d + 3) 192 _).trans ?_
    refine go_ald_1_0 rfl ?_
    refine go_c rfl ?_
    refine go_call2 rfl (pm_isSign (d + 2) c hM 59 (by decide) u) (Nat.le_of_ble_eq_true rfl) (qb_qv rfl (by decide) (by decide)) ?_
    refine go_ifne rfl (fun e => ?_) (fun e => ?_)
    · exact absurd h (qB_0.mp e)
    · refine go_ald_1_0 rfl ?_
      refine go_call1 rfl (m1 u) (Nat.le_of_ble_eq_true rfl) (qb_qv rfl (by decide) (by decide)) ?_
      refine go_c rfl ?_
      exact fin_i rfl rfl rfl
  · intro h u
    have hb := pm_bad (d + 2) c hM 1 u
    rw [ite_self] at hb
    refine (en_190 (d + 3) 192 _).trans ?_
    refine go_ald_1_0 rfl ?_
    refine go_c rfl ?_
    refine go_call2 rfl (pm_isSign (d + 2) c hM 59 (by decide) u) (Nat.le_of_ble_eq_true rfl) (qb_qv rfl (by decide) (by decide)) ?_
    refine go_ifne rfl (fun e => ?_) (fun e => ?_)
    · refine go_ald_1_0 rfl ?_
      refine go_c rfl ?_
      refine go_call2 rfl (hb) (Nat.le_of_ble_eq_true rfl) (qb_qv rfl (by decide) (by decide)) ?_
      exact fin_i rfl rfl rfl
    · exact absurd (qB_f h) e
theorem pc_isNumber (d : Nat) (c : Nat × Nat) {M : qb_M} {n l : Nat} {b : Nat → Nat} {p : Nat} (hC : rC M n l b p) (x y : Int32) (u : qb_M) : (tx_k n l b p = 3 → x ≤ nI (tx_n n b p) ∧ nI (tx_n n b p) ≤ y → qe (d + 2) 31 [.ref 65, .int x, .int y] (qb_hp (qj M u), 149, c) = some (some (.int (1)), (qb_hp (qj M u), 149, c))) ∧ (tx_k n l b p = 3 → ¬ (x ≤ nI (tx_n n b p) ∧ nI (tx_n n b p) ≤ y) → qe (d + 2) 31 [.ref 65, .int x, .int y] (qb_hp (qj M u), 149, c) = some (some (.int (0)), (qb_hp (qj (fC M 2 (tx_p n l b p)) u), 149, c))) ∧ (tx_k n l b p ≠ 3 → qe (d + 2) 31 [.ref 65, .int x, .int y] (qb_hp (qj M u), 149, c) = some (some (.int (0)), (qb_hp (qj (fC M 1 (tx_p n l b p)) u), 149, c))) := by
  have hk9 := tx_k9 (n := n) (l := l) (b := b) (p := p)
  have en : ∀ R, (tx_k n l b p = 3 → qa_lm (qe (d + 1)) (qa_cd qc_31) (14, [.ref 65, .int x, .int y], [], (qb_hp (qj M u), 149, c)) = R) → (tx_k n l b p ≠ 3 → some (some (.int (0)), (qb_hp (qj (fC M 1 (tx_p n l b p)) u), 149, c)) = R) → qe (d + 2) 31 [.ref 65, .int x, .int y] (qb_hp (qj M u), 149, c) = R := fun R g1 g2 => by
    refine (en_31 (d + 1) 65 x y _).trans ?_
    refine go_ald_3_0 rfl ?_
    refine go_geti rfl ⟨_, rfl, rfl, by decide, by decide⟩ ?_
    refine go_c rfl ?_
    rw [show (qj M u).1 65 7 = nI (tx_k n l b p) from hC.2.2.2.2.1]
    refine go_iceq rfl (fun e => ?_) (fun e => ?_)
    · exact g1 ((nI_eq (b := 3) hk9 (by decide)).mp e)
    · have := g2 (fun z => e (by rw [z]; rfl))
      refine go_ald_3_0 rfl ?_
      refine go_c rfl ?_
      refine go_call2 rfl (pc_fail d c hC 1 u) (Nat.le_of_ble_eq_true rfl) (qb_qv rfl (by decide) (by decide)) ?_
      exact fin_i rfl rfl this
  refine ⟨fun h3 hr => en _ (fun _ => ?_) (fun z => absurd h3 z), fun h3 hr => en _ (fun _ => ?_) (fun z => absurd h3 z), fun h3 => en _ (fun z => absurd z h3) (fun _ => rfl)⟩
  · have h8 : (qj M u).1 65 8 = nI (tx_n n b p) := hC.2.2.2.2.2.2.2 h3
    refine go_ald_3_0 rfl ?_
    refine go_geti rfl ⟨_, rfl, rfl, by decide, by decide⟩ ?_
    refine go_ild_3_1 rfl ?_
    rw [h8]
    refine go_iclt rfl (fun e => ?_) (fun e => ?_)
    · exact absurd e (Int32.not_lt.mpr hr.1)
    · refine go_ald_3_0 rfl ?_
      refine go_geti rfl ⟨_, rfl, rfl, by decide, by decide⟩ ?_
      refine go_ild_3_2 rfl ?_
      rw [h8]
      refine go_icle rfl (fun e2 => ?_) (fun e2 => ?_)
      · refine go_c rfl ?_
        refine go_goto rfl ?_
        exact fin_i rfl rfl rfl
      · exact absurd hr.2 e2
  · have h8 : (qj M u).1 65 8 = nI (tx_n n b p) := hC.2.2.2.2.2.2.2 h3
    have no : qa_lm (qe (d + 1)) (qa_cd qc_31) (30, [.ref 65, .int x, .int y], [], (qb_hp (qj M u), 149, c)) = some (some (.int (0)), (qb_hp (qj (fC M 2 (tx_p n l b p)) u), 149, c)) := by
      refine go_ald_3_0 rfl ?_
      refine go_c rfl ?_
      refine go_call2 rfl (pc_fail d c hC 2 u) (Nat.le_of_ble_eq_true rfl) (qb_qv rfl (by decide) (by decide)) ?_
      refine go_ifeq rfl (fun e => ?_) (fun e => ?_)
      · refine go_c rfl ?_
        exact fin_i rfl rfl rfl
      · exact absurd rfl e
    refine go_ald_3_0 rfl ?_
    refine go_geti rfl ⟨_, rfl, rfl, by decide, by decide⟩ ?_
    refine go_ild_3_1 rfl ?_
    rw [h8]
    refine go_iclt rfl (fun e => ?_) (fun e => ?_)
    · exact no
    · refine go_ald_3_0 rfl ?_
      refine go_geti rfl ⟨_, rfl, rfl, by decide, by decide⟩ ?_
      refine go_ild_3_2 rfl ?_
      rw [h8]
      refine go_icle rfl (fun e2 => ?_) (fun e2 => ?_)
      · exact absurd ⟨Int32.not_lt.mp e, e2⟩ hr
      · exact no
theorem pm_readNumber (d : Nat) (c : Nat × Nat) {M : qb_M} {n l : Nat} {b : Nat → Nat} {p : Nat} (hM : rM M n l b p) (x y : Int32) : (tx_k n l b p = 3 → x ≤ nI (tx_n n b p) ∧ nI (tx_n n b p) ≤ y → ∃ M', (∀ u, qe (d + 4) 181 [.ref 192, .int x, .int y] (qb_hp (qj u M), 149, c) = some (some (.int (1)), (qb_hp (qj u M'), 149, c))) ∧ rM M' n l b (tx_e n l b p) ∧ M'.1 192 13 = nI (tx_n n b p) ∧ qG (fun x k => x = 192 ∧ (5 ≤ k ∧ k ≤ 9 ∨ k = 12 ∨ k = 13)) M M') ∧ (tx_k n l b p = 3 → ¬ (x ≤ nI (tx_n n b p) ∧ nI (tx_n n b p) ≤ y) → ∀ u, qe (d + 4) 181 [.ref 192, .int x, .int y] (qb_hp (qj u M), 149, c) = some (some (.int (0)), (qb_hp (qj u (fM M 2 (tx_p n l b p))), 149, c))) ∧ (tx_k n l b p ≠ 3 → ∀ u, qe (d + 4) 181 [.ref 192, .int x, .int y] (qb_hp (qj u M), 149, c) = some (some (.int (0)), (qb_hp (qj u (fM M 1 (tx_p n l b p))), 149, c))) := by
  have en : ∀ u R, (tx_k n l b p = 3 → qa_lm (qe (d + 3)) (qa_cd qc_181) (14, [.ref 192, .int x, .int y], [], (qb_hp (qj u M), 149, c)) = R) → (tx_k n l b p ≠ 3 → some (some (.int (0)), (qb_hp (qj u (fM M 1 (tx_p n l b p))), 149, c)) = R) → qe (d + 4) 181 [.ref 192, .int x, .int y] (qb_hp (qj u M), 149, c) = R := fun u R g1 g2 => by
    have hb := pm_bad (d + 2) c hM 1 u
    rw [ite_self] at hb
    refine (en_181 (d + 3) 192 x y _).trans ?_
    refine go_ald_3_0 rfl ?_
    refine go_geti rfl ⟨_, rfl, rfl, by decide, by decide⟩ ?_
    refine go_c rfl ?_
    rw [show (qj u M).1 192 7 = nI (if 4 ≤ tx_k n l b p then 4 else tx_k n l b p) from hM.2.2.2.2.1]
    refine go_iceq rfl (fun e => ?_) (fun e => ?_)
    · refine g1 ?_
      have := (nI_eq (b := 3) tx_m9 (by decide)).mp e
      split at this <;> omega
    · have := g2 (fun z => e (by rw [z]; rfl))
      refine go_ald_3_0 rfl ?_
      refine go_c rfl ?_
      refine go_call2 rfl (hb) (Nat.le_of_ble_eq_true rfl) (qb_qv rfl (by decide) (by decide)) ?_
      exact fin_i rfl rfl this
  refine ⟨fun h3 hr => ?_, fun h3 hr u => en u _ (fun _ => ?_) (fun z => absurd h3 z), fun h3 u => en u _ (fun z => absurd z h3) (fun _ => rfl)⟩
  · obtain ⟨M', m1, m2, m3⟩ := pm_go d c (hM.mv (P := fun x k => x = 192 ∧ k = 13) (qG.rf.ui (v := nI (tx_n n b p)) ⟨rfl, rfl⟩) (fun x k h => by omega))
    refine ⟨M', fun u => en u _ (fun _ => ?_) (fun z => absurd h3 z), m2, (m3.i (by omega)).trans qb_ui_1s, (qG.rf.ui (by omega)).tr (m3.mo (fun x k h => by omega))⟩
    have h8 : (qj u M).1 192 8 = nI (tx_n n b p) := hM.2.2.2.2.2.2.2 h3
    refine go_ald_3_0 rfl ?_
    refine go_geti rfl ⟨_, rfl, rfl, by decide, by decide⟩ ?_
    rw [h8]
    refine go_ild_3_1 rfl ?_
    refine go_ild_3_2 rfl ?_
    refine go_call3 rfl (sp_isIn (d + 2) _ _ _ _) (Nat.le_of_ble_eq_true rfl) rfl ?_
    refine go_ifne rfl (fun e => ?_) (fun e => ?_)
    · exact absurd hr (qB_0.mp e)
    · refine go_ald_3_0 rfl ?_
      refine go_ald_3_0 rfl ?_
      refine go_geti rfl ⟨_, rfl, rfl, by decide, by decide⟩ ?_
      rw [h8]
      refine go_puti rfl ⟨_, rfl, rfl, by decide, by decide⟩ rfl rfl ?_
      rw [qj_UI (by decide)]
      refine go_ald_3_0 rfl ?_
      refine go_call1 rfl (m1 u) (Nat.le_of_ble_eq_true rfl) (qb_qv rfl (by decide) (by decide)) ?_
      refine go_c rfl ?_
      exact fin_i rfl rfl rfl
  · have h8 : (qj u M).1 192 8 = nI (tx_n n b p) := hM.2.2.2.2.2.2.2 h3
    have hb := pm_bad (d + 2) c hM 2 u
    rw [if_neg (by omega)] at hb
    refine go_ald_3_0 rfl ?_
    refine go_geti rfl ⟨_, rfl, rfl, by decide, by decide⟩ ?_
    rw [h8]
    refine go_ild_3_1 rfl ?_
    refine go_ild_3_2 rfl ?_
    refine go_call3 rfl (sp_isIn (d + 2) _ _ _ _) (Nat.le_of_ble_eq_true rfl) rfl ?_
    refine go_ifne rfl (fun e => ?_) (fun e => ?_)
    · refine go_ald_3_0 rfl ?_
      refine go_c rfl ?_
      refine go_call2 rfl (hb) (Nat.le_of_ble_eq_true rfl) (qb_qv rfl (by decide) (by decide)) ?_
      exact fin_i rfl rfl rfl
    · exact absurd (qB_f hr) e
