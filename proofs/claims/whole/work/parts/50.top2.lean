/-! turn, jam, free -/
theorem qm_ac_0 {p : Nat → Bool} {n : Nat} : qm_ac p n = 0 ↔ ∀ k, k < n → ¬ p k = true := by
  constructor
  · intro h k hk hp
    have := qm_ac_bit p n k
    rw [h, Nat.zero_testBit, hp, decide_eq_true hk] at this
    exact absurd this (by decide)
  · intro h
    apply Nat.eq_of_testBit_eq
    intro j
    rw [qm_ac_bit, Nat.zero_testBit]
    by_cases hj : j < n
    · rw [eq_false_of_ne_true (h j hj)]; simp
    · rw [decide_eq_false hj]; rfl
/-- a switch told to act upon: both ask for it alike -/
theorem bo_switch (d : Nat) (kB kM vb : Nat) (s : qb_M) (c : Nat × Nat) (x : Int32) (hZ : qZ s) (eB : ∀ h R, (∀ nm : Nat, s.1 67 6 = nI nm → (¬ (0 ≤ x ∧ x < nI nm) → some (some (.int (-1)), (qb_hp (s), 149, c)) = R) ∧ ((0 ≤ x ∧ x < nI nm) → ∃ r t, qe (d + 19) 57 [.ref 64, .int (nI vb), .int x, .int 0, .int 0, .int 0] (qb_hp (s), 149, c) = some (some (.int (r)), (qb_hp (t), 149, c)) ∧ some (some (.int (r)), (qb_hp (t), 149, c)) = R)) → h = (qb_hp (s), 149, c) → qe (d + 20) kB [.ref 64, .int x] h = R) (eM : ∀ t R, (∀ nm : Nat, t.1 194 1 = nI nm → nm ≤ 10 → (¬ (0 ≤ x ∧ x < nI nm) → some (some (.int (-1)), (qb_hp (qb_ui t 192 0 0), 149, c)) = R) ∧ ((0 ≤ x ∧ x < nI nm) → ∃ r u, qe (d + 19) 214 [.ref 192, .int (nI vb), .int x, .int 0, .int 0, .int 0, .int 1] (qb_hp (qb_ui t 192 0 0), 149, c) = some (some (.int (r)), (qb_hp (u), 149, c)) ∧ some (some (.int (r)), (qb_hp (u), 149, c)) = R)) → (∃ nm : Nat, t.1 194 1 = nI nm ∧ nm ≤ 10) → qe (d + 20) kM [.ref 192, .int x] (qb_hp (t), 149, c) = R) (hyp : ∀ nw nm ns V F0 lo hi se, qZp s 67 194 0 199 0 nw nm ns V F0 lo hi se → ∀ H X J Lf Sh, qs_in nw nm lo hi (qm_so s) H X J Lf Sh → ∀ k, k < nm → x = nI k → ∀ s1 m : qb_M, qs_R (qs_so s1 145) (qm_so m) → qm_so m = qm_so s → qF (fun y => 145 ≤ y ∧ y < 150) s s1 → (∀ k, m.1 194 k = s.1 194 k) → ∃ r t, qe (d + 18) 59 [.ref 125, .ref 145, .int (nI vb), .int x, .int 0, .int 0, .int 0] (qb_hp (s1), 149, c) = some (some (.int (r)), (qb_hp (t), 149, c)) ∧ qC_fr 145 s1 t ∧ (∃ m1, qe (d + 18) 215 [.ref 192, .int (nI vb), .int x, .int 0, .int 0] (qb_hp (m), 149, c) = some (some (.int (r)), (qb_hp (m1), 149, c)) ∧ qm_so m1 = qm_so m ∧ qM_fr m m1) ∧ (r = 0 → ∃ g', qZs nw nm lo hi (qs_so t 145) g' ∧ ∀ m', (∀ k, m'.1 194 k = m.1 194 k) → ∃ m2, qe (d + 18) 222 [.ref 192, .int (nI vb), .int x, .int 0, .int 0, .int 0] (qb_hp (m'), 149, c) = some (none, (qb_hp (m2), 149, c)) ∧ qm_so m2 = g' ∧ qM_fr m' m2)) : ∃ v t u, qe (d + 20) kB [.ref 64, .int x] (qb_hp (s), 149, c) = some (some (.int (v)), (qb_hp (t), 149, c)) ∧ qe (d + 20) kM [.ref 192, .int x] (qb_hp (t), 149, c) = some (some (.int (v)), (qb_hp (u), 149, c)) ∧ qZ u := by
  obtain ⟨hx0, nw, nm, ns, V, F0, lo, hi, se, h1, h2, h3, h4⟩ := id hZ
  have hw := h1.1
  by_cases hx : 0 ≤ x ∧ x < nI nm
  · obtain ⟨k, hk, hxk⟩ := qx_w (by omega) hx
    obtain ⟨r, t, u, a1, a2, a3, a4⟩ := bo_act (d + 12) (d + 11) s c hZ (nI vb) x 0 0 0 (fun nw' nm' ns' V' F0' lo' hi' se' h1' H X J Lf Sh hI s1 m hR hm hf hm2 => by
      have hnm : nm' = nm := (nI_eq (by have := h1'.1; omega) (by omega)).mp (h1'.2.1.2.1.symm.trans h1.2.1.2.1)
      subst hnm
      exact hyp nw' nm' ns' V' F0' lo' hi' se' h1' H X J Lf Sh hI k hk hxk s1 m hR hm hf hm2)
    refine ⟨r, t, u, eB _ _ (fun nm' hnm' => ?_) rfl, eM t _ (fun nm' hnm' _ => ?_) ⟨nm, (a2.i (by omega)).trans h1.2.2.1.2.1, by omega⟩, a4⟩
    · rw [← hnm', h1.2.1.2.1]
      exact ⟨fun z => absurd hx z, fun _ => ⟨r, t, a1, rfl⟩⟩
    · rw [← hnm', a2.i (by omega), show s.1 194 1 = nI nm from h1.2.2.1.2.1]
      exact ⟨fun z => absurd hx z, fun _ => ⟨r, u, a3, rfl⟩⟩
  · refine ⟨-1, s, qb_ui s 192 0 0, eB _ _ (fun nm' hnm' => ?_) rfl, eM s _ (fun nm' hnm' _ => ?_) ⟨nm, h1.2.2.1.2.1, by omega⟩, hZ.thr 0⟩
    · rw [← hnm', h1.2.1.2.1]
      exact ⟨fun _ => rfl, fun z => absurd z hx⟩
    · rw [← hnm', show s.1 194 1 = nI nm from h1.2.2.1.2.1]
      exact ⟨fun _ => rfl, fun z => absurd z hx⟩
theorem eB_turn (d : Nat) (s : qb_M) (c : Nat × Nat) (x : Int32) (h : qa_H) (R : Option (Option Value × qa_H)) (hp : ∃ nm : Nat, s.1 67 6 = nI nm) (hh : ∀ nm : Nat, s.1 67 6 = nI nm → (¬ (0 ≤ x ∧ x < nI nm) → some (some (.int (-1)), (qb_hp (s), 149, c)) = R) ∧ ((0 ≤ x ∧ x < nI nm) → ∃ r t, qe (d + 19) 57 [.ref 64, .int (nI 2), .int x, .int 0, .int 0, .int 0] (qb_hp (s), 149, c) = some (some (.int (r)), (qb_hp (t), 149, c)) ∧ some (some (.int (r)), (qb_hp (t), 149, c)) = R)) (e : h = (qb_hp (s), 149, c)) : qe (d + 20) 83 [.ref 64, .int x] h = R := by
  subst e
  obtain ⟨nm, h0⟩ := hp
  obtain ⟨h1, h2⟩ := hh nm h0
  refine (en_83 (d + 19) 64 x _).trans ?_
  refine go_ald_2_0 rfl ?_
  refine go_ild_2_1 rfl ?_
  refine go_call2 rfl (sp_isSwitchB (d + 18) s c h0 _) (Nat.le_of_ble_eq_true rfl) (qb_qv rfl (by decide) (by decide)) ?_
  refine go_ifeq rfl (fun e => ?_) (fun e => ?_)
  · have := h1 (qB_0.mp e)
    refine go_c rfl ?_
    exact fin_i rfl rfl this
  · obtain ⟨r, t, g1, g2⟩ := h2 (Classical.byContradiction fun z => e (qB_f z))
    refine go_ald_2_0 rfl ?_
    refine go_c rfl ?_
    refine go_ild_2_1 rfl ?_
    refine go_c rfl ?_
    refine go_c rfl ?_
    refine go_c rfl ?_
    refine go_call6 rfl (g1) (Nat.le_of_ble_eq_true rfl) (qb_qv rfl (by decide) (by decide)) ?_
    refine go_goto rfl ?_
    exact fin_i rfl rfl g2
theorem eM_turn (d : Nat) (c : Nat × Nat) (x : Int32) (t : qb_M) (R : Option (Option Value × qa_H)) (hh : ∀ nm : Nat, t.1 194 1 = nI nm → nm ≤ 10 → (¬ (0 ≤ x ∧ x < nI nm) → some (some (.int (-1)), (qb_hp (qb_ui t 192 0 0), 149, c)) = R) ∧ ((0 ≤ x ∧ x < nI nm) → ∃ r u, qe (d + 19) 214 [.ref 192, .int (nI 2), .int x, .int 0, .int 0, .int 0, .int 1] (qb_hp (qb_ui t 192 0 0), 149, c) = some (some (.int (r)), (qb_hp (u), 149, c)) ∧ some (some (.int (r)), (qb_hp (u), 149, c)) = R)) (hp : ∃ nm : Nat, t.1 194 1 = nI nm ∧ nm ≤ 10) : qe (d + 20) 227 [.ref 192, .int x] (qb_hp (t), 149, c) = R := by
  obtain ⟨nm, h0, h10⟩ := hp
  obtain ⟨h1, h2⟩ := hh nm h0 h10
  refine (en_227 (d + 19) 192 x _).trans ?_
  refine go_ald_2_0 rfl ?_
  refine go_c rfl ?_
  refine go_puti rfl ⟨_, rfl, rfl, by decide, by decide⟩ rfl rfl ?_
  refine go_ald_2_0 rfl ?_
  refine go_c rfl ?_
  refine go_ild_2_1 rfl ?_
  refine go_c rfl ?_
  refine go_c rfl ?_
  refine go_c rfl ?_
  refine go_ald_2_0 rfl ?_
  refine go_ild_2_1 rfl ?_
  refine go_call2 rfl (sp_isSwitch (d + 17) (qb_ui t 192 0 0) c (nm := nm) ((qb_ui_1n (Or.inl (by decide))).trans h0) h10 _) (Nat.le_of_ble_eq_true rfl) (qb_qv rfl (by decide) (by decide)) ?_
  by_cases hx : 0 ≤ x ∧ x < nI nm
  · rw [qB_t hx]
    obtain ⟨r, u, g1, g2⟩ := h2 hx
    refine go_call7 rfl (g1) (Nat.le_of_ble_eq_true rfl) (qb_qv rfl (by decide) (by decide)) ?_
    exact fin_i rfl rfl g2
  · rw [qB_f hx]
    have := h1 hx
    refine go_call7 rfl (ma_no (d + 18) _ c _ _ _ _ _) (Nat.le_of_ble_eq_true rfl) (qb_qv rfl (by decide) (by decide)) ?_
    exact fin_i rfl rfl this
theorem eB_jam (d : Nat) (s : qb_M) (c : Nat × Nat) (x : Int32) (h : qa_H) (R : Option (Option Value × qa_H)) (hp : ∃ nm : Nat, s.1 67 6 = nI nm) (hh : ∀ nm : Nat, s.1 67 6 = nI nm → (¬ (0 ≤ x ∧ x < nI nm) → some (some (.int (-1)), (qb_hp (s), 149, c)) = R) ∧ ((0 ≤ x ∧ x < nI nm) → ∃ r t, qe (d + 19) 57 [.ref 64, .int (nI 3), .int x, .int 0, .int 0, .int 0] (qb_hp (s), 149, c) = some (some (.int (r)), (qb_hp (t), 149, c)) ∧ some (some (.int (r)), (qb_hp (t), 149, c)) = R)) (e : h = (qb_hp (s), 149, c)) : qe (d + 20) 85 [.ref 64, .int x] h = R := by
  subst e
  obtain ⟨nm, h0⟩ := hp
  obtain ⟨h1, h2⟩ := hh nm h0
  refine (en_85 (d + 19) 64 x _).trans ?_
  refine go_ald_2_0 rfl ?_
  refine go_ild_2_1 rfl ?_
  refine go_call2 rfl (sp_isSwitchB (d + 18) s c h0 _) (Nat.le_of_ble_eq_true rfl) (qb_qv rfl (by decide) (by decide)) ?_
  refine go_ifeq rfl (fun e => ?_) (fun e => ?_)
  · have := h1 (qB_0.mp e)
    refine go_c rfl ?_
    exact fin_i rfl rfl this
  · obtain ⟨r, t, g1, g2⟩ := h2 (Classical.byContradiction fun z => e (qB_f z))
    refine go_ald_2_0 rfl ?_
    refine go_c rfl ?_
    refine go_ild_2_1 rfl ?_
    refine go_c rfl ?_
    refine go_c rfl ?_
    refine go_c rfl ?_
    refine go_call6 rfl (g1) (Nat.le_of_ble_eq_true rfl) (qb_qv rfl (by decide) (by decide)) ?_
    refine go_goto rfl ?_
    exact fin_i rfl rfl g2
theorem eM_jam (d : Nat) (c : Nat × Nat) (x : Int32) (t : qb_M) (R : Option (Option Value × qa_H)) (hh : ∀ nm : Nat, t.1 194 1 = nI nm → nm ≤ 10 → (¬ (0 ≤ x ∧ x < nI nm) → some (some (.int (-1)), (qb_hp (qb_ui t 192 0 0), 149, c)) = R) ∧ ((0 ≤ x ∧ x < nI nm) → ∃ r u, qe (d + 19) 214 [.ref 192, .int (nI 3), .int x, .int 0, .int 0, .int 0, .int 1] (qb_hp (qb_ui t 192 0 0), 149, c) = some (some (.int (r)), (qb_hp (u), 149, c)) ∧ some (some (.int (r)), (qb_hp (u), 149, c)) = R)) (hp : ∃ nm : Nat, t.1 194 1 = nI nm ∧ nm ≤ 10) : qe (d + 20) 228 [.ref 192, .int x] (qb_hp (t), 149, c) = R := by
  obtain ⟨nm, h0, h10⟩ := hp
  obtain ⟨h1, h2⟩ := hh nm h0 h10
  refine (en_228 (d + 19) 192 x _).trans ?_
  refine go_ald_2_0 rfl ?_
  refine go_c rfl ?_
  refine go_puti rfl ⟨_, rfl, rfl, by decide, by decide⟩ rfl rfl ?_
  refine go_ald_2_0 rfl ?_
  refine go_c rfl ?_
  refine go_ild_2_1 rfl ?_
  refine go_c rfl ?_
  refine go_c rfl ?_
  refine go_c rfl ?_
  refine go_ald_2_0 rfl ?_
  refine go_ild_2_1 rfl ?_
  refine go_call2 rfl (sp_isSwitch (d + 17) (qb_ui t 192 0 0) c (nm := nm) ((qb_ui_1n (Or.inl (by decide))).trans h0) h10 _) (Nat.le_of_ble_eq_true rfl) (qb_qv rfl (by decide) (by decide)) ?_
  by_cases hx : 0 ≤ x ∧ x < nI nm
  · rw [qB_t hx]
    obtain ⟨r, u, g1, g2⟩ := h2 hx
    refine go_call7 rfl (g1) (Nat.le_of_ble_eq_true rfl) (qb_qv rfl (by decide) (by decide)) ?_
    exact fin_i rfl rfl g2
  · rw [qB_f hx]
    have := h1 hx
    refine go_call7 rfl (ma_no (d + 18) _ c _ _ _ _ _) (Nat.le_of_ble_eq_true rfl) (qb_qv rfl (by decide) (by decide)) ?_
    exact fin_i rfl rfl this
theorem eB_free (d : Nat) (s : qb_M) (c : Nat × Nat) (x : Int32) (h : qa_H) (R : Option (Option Value × qa_H)) (hp : ∃ nm : Nat, s.1 67 6 = nI nm) (hh : ∀ nm : Nat, s.1 67 6 = nI nm → (¬ (0 ≤ x ∧ x < nI nm) → some (some (.int (-1)), (qb_hp (s), 149, c)) = R) ∧ ((0 ≤ x ∧ x < nI nm) → ∃ r t, qe (d + 19) 57 [.ref 64, .int (nI 4), .int x, .int 0, .int 0, .int 0] (qb_hp (s), 149, c) = some (some (.int (r)), (qb_hp (t), 149, c)) ∧ some (some (.int (r)), (qb_hp (t), 149, c)) = R)) (e : h = (qb_hp (s), 149, c)) : qe (d + 20) 86 [.ref 64, .int x] h = R := by
  subst e
  obtain ⟨nm, h0⟩ := hp
  obtain ⟨h1, h2⟩ := hh nm h0
  refine (en_86 (d + 19) 64 x _).trans ?_
  refine go_ald_2_0 rfl ?_
  refine go_ild_2_1 rfl ?_
  refine go_call2 rfl (sp_isSwitchB (d + 18) s c h0 _) (Nat.le_of_ble_eq_true rfl) (qb_qv rfl (by decide) (by decide)) ?_
  refine go_ifeq rfl (fun e => ?_) (fun e => ?_)
  · have := h1 (qB_0.mp e)
    refine go_c rfl ?_
    exact fin_i rfl rfl this
  · obtain ⟨r, t, g1, g2⟩ := h2 (Classical.byContradiction fun z => e (qB_f z))
    refine go_ald_2_0 rfl ?_
    refine go_c rfl ?_
    refine go_ild_2_1 rfl ?_
    refine go_c rfl ?_
    refine go_c rfl ?_
    refine go_c rfl ?_
    refine go_call6 rfl (g1) (Nat.le_of_ble_eq_true rfl) (qb_qv rfl (by decide) (by decide)) ?_
    refine go_goto rfl ?_
    exact fin_i rfl rfl g2
theorem eM_free (d : Nat) (c : Nat × Nat) (x : Int32) (t : qb_M) (R : Option (Option Value × qa_H)) (hh : ∀ nm : Nat, t.1 194 1 = nI nm → nm ≤ 10 → (¬ (0 ≤ x ∧ x < nI nm) → some (some (.int (-1)), (qb_hp (qb_ui t 192 0 0), 149, c)) = R) ∧ ((0 ≤ x ∧ x < nI nm) → ∃ r u, qe (d + 19) 214 [.ref 192, .int (nI 4), .int x, .int 0, .int 0, .int 0, .int 1] (qb_hp (qb_ui t 192 0 0), 149, c) = some (some (.int (r)), (qb_hp (u), 149, c)) ∧ some (some (.int (r)), (qb_hp (u), 149, c)) = R)) (hp : ∃ nm : Nat, t.1 194 1 = nI nm ∧ nm ≤ 10) : qe (d + 20) 229 [.ref 192, .int x] (qb_hp (t), 149, c) = R := by
  obtain ⟨nm, h0, h10⟩ := hp
  obtain ⟨h1, h2⟩ := hh nm h0 h10
  refine (en_229 (d + 19) 192 x _).trans ?_
  refine go_ald_2_0 rfl ?_
  refine go_c rfl ?_
  refine go_puti rfl ⟨_, rfl, rfl, by decide, by decide⟩ rfl rfl ?_
  refine go_ald_2_0 rfl ?_
  refine go_c rfl ?_
  refine go_ild_2_1 rfl ?_
  refine go_c rfl ?_
  refine go_c rfl ?_
  refine go_c rfl ?_
  refine go_ald_2_0 rfl ?_
  refine go_ild_2_1 rfl ?_
  refine go_call2 rfl (sp_isSwitch (d + 17) (qb_ui t 192 0 0) c (nm := nm) ((qb_ui_1n (Or.inl (by decide))).trans h0) h10 _) (Nat.le_of_ble_eq_true rfl) (qb_qv rfl (by decide) (by decide)) ?_
  by_cases hx : 0 ≤ x ∧ x < nI nm
  · rw [qB_t hx]
    obtain ⟨r, u, g1, g2⟩ := h2 hx
    refine go_call7 rfl (g1) (Nat.le_of_ble_eq_true rfl) (qb_qv rfl (by decide) (by decide)) ?_
    exact fin_i rfl rfl g2
  · rw [qB_f hx]
    have := h1 hx
    refine go_call7 rfl (ma_no (d + 18) _ c _ _ _ _ _) (Nat.le_of_ble_eq_true rfl) (qb_qv rfl (by decide) (by decide)) ?_
    exact fin_i rfl rfl this
theorem qT_turn (d : Nat) (x : Int32) : qT (d + 20) 83 227 [.int x] := by
  intro s c hZ
  have hp : ∃ nm : Nat, s.1 67 6 = nI nm := by
    obtain ⟨hx0, nw, nm, ns, V, F0, lo, hi, se, h1, _⟩ := hZ
    exact ⟨nm, h1.2.1.2.1⟩
  refine bo_switch d 83 227 2 s c x hZ (fun h R a b => eB_turn d s c x h R hp a b) (fun t R a b => eM_turn d c x t R a b) (fun nw nm ns V F0 lo hi se h1 H X J Lf Sh hI k hk hxk s1 m hR hm hf hm2 => ?_)
  subst hxk
  have hS := qS_145
  have hw := h1.1
  have hpc : qP_pl s1 67 nw nm lo hi := h1.c.mv hf (by omega) (by omega) (by omega)
  have hpm : qm_pl m nw nm lo hi := by
    have := h1.m
    unfold qm_pl at this ⊢
    rw [show m.1 194 = s.1 194 from funext hm2]
    exact this
  have hok := hpc.ok
  have h10 : 2 ^ nm ≤ 2 ^ 10 := Nat.pow_le_pow_right (by decide) (by omega)
  rw [← hm] at hI
  obtain ⟨-, ⟨hX, hX2⟩, ⟨hJ, hJ2⟩, hW⟩ := id hI
  have hXc : s1.1 145 5 = nI X := (hR.1 1 (by omega) (by omega)).trans hX
  have hJc : s1.1 145 6 = nI J := (hR.1 2 (by omega) (by omega)).trans hJ
  have hJm : m.1 194 32 = nI J := hJ
  have hcb := sp_callsBy (d + 12) m c hpm X hX (by omega) k hk
  have hacl : qm_ac (fun w => qs_on (qm_so m) w && qm_th lo hi X w k) nw < 256 := Nat.lt_of_lt_of_le (qm_ac_lt _ nw) (Nat.pow_le_pow_right (n := 2) (by decide) hw.2.1)
  have hex : (∃ w, w < nw ∧ qs_on (qs_so s1 145) w = true ∧ qm_th lo hi X w k = true) ↔ qm_ac (fun w => qs_on (qm_so m) w && qm_th lo hi X w k) nw ≠ 0 := by
    rw [ne_eq, qm_ac_0]
    constructor
    · rintro ⟨w, a1, a2, a3⟩ h
      rw [hR.on (by omega)] at a2
      exact h w a1 (by rw [a2, a3]; rfl)
    · intro h
      exact Classical.byContradiction fun z => h (fun w hw1 hb => z ⟨w, hw1, by
        rw [Bool.and_eq_true] at hb
        rw [hR.on (by omega)]
        exact hb⟩)
  rcases sp_turnOver (d + 13) s1 c hS hpc hXc (by omega) hJc (by omega) k hk with ⟨a1, a2⟩ | ⟨a1, a2, a3⟩ | ⟨a1, a2, t, a3, a4, a5⟩
  · refine ⟨1, _, sp_perf2 (d + 13) s1 c _ _ _ _ a2, qC_fr.rf, ⟨m, ?_, rfl, qM_fr.rf⟩, fun z => absurd z (by decide)⟩
    refine (en_215 (d + 17) 192 (nI 2) (nI k) 0 0 _).trans ?_
    refine go_ild_5_1 rfl ?_
    refine go_sw2 (n := 77) rfl (by decide +kernel) ?_
    refine go_ald_5_0 rfl ?_
    refine go_getr rfl ⟨_, rfl, rfl, by decide, by decide⟩ ?_
    refine go_c rfl ?_
    refine go_iald (j := 32) rfl ⟨rfl, by decide, by decide, by decide⟩ rfl (by decide) ?_
    rw [hJm]
    refine go_ild_5_2 rfl ?_
    refine go_call2 rfl (sp_has (d + 16) J k (by omega) (by omega) _) (Nat.le_of_ble_eq_true rfl) rfl ?_
    rw [qB_t a1]
    refine go_ifeq rfl (fun e => ?_) (fun e => ?_)
    · exact absurd e (by decide)
    · refine go_c rfl ?_
      refine go_goto rfl ?_
      exact fin_i rfl rfl rfl
  · refine ⟨2, _, sp_perf2 (d + 13) s1 c _ _ _ _ a3, qC_fr.rf, ⟨m, ?_, rfl, qM_fr.rf⟩, fun z => absurd z (by decide)⟩
    refine (en_215 (d + 17) 192 (nI 2) (nI k) 0 0 _).trans ?_
    refine go_ild_5_1 rfl ?_
    refine go_sw2 (n := 77) rfl (by decide +kernel) ?_
    refine go_ald_5_0 rfl ?_
    refine go_getr rfl ⟨_, rfl, rfl, by decide, by decide⟩ ?_
    refine go_c rfl ?_
    refine go_iald (j := 32) rfl ⟨rfl, by decide, by decide, by decide⟩ rfl (by decide) ?_
    rw [hJm]
    refine go_ild_5_2 rfl ?_
    refine go_call2 rfl (sp_has (d + 16) J k (by omega) (by omega) _) (Nat.le_of_ble_eq_true rfl) rfl ?_
    rw [qB_f a1]
    refine go_ifeq rfl (fun e => ?_) (fun e => ?_)
    · refine go_ald_5_0 rfl ?_
      refine go_ild_5_2 rfl ?_
      refine go_call2 rfl (hcb) (Nat.le_of_ble_eq_true rfl) (qb_qv rfl (by decide) (by decide)) ?_
      refine go_ifeq rfl (fun e2 => ?_) (fun e2 => ?_)
      · exact absurd ((nI_eq (b := 0) (by omega) (by decide)).mp e2) (hex.mp a2)
      · refine go_c rfl ?_
        refine go_goto rfl ?_
        exact fin_i rfl rfl rfl
    · exact absurd rfl e
  · refine ⟨0, _, sp_perf2 (d + 13) s1 c _ _ _ _ a3, qC_fr.st (by decide) a5, ⟨m, ?_, rfl, qM_fr.rf⟩, fun _ => ⟨qs_u (qt_tn (2 ^ k) (qm_so m) 10) 1 (nI (X ^^^ 2 ^ k)), ⟨by rw [a4]; exact hR.turn, H, _, J, Lf, Sh, hI.turn hok hk (fun ⟨w, z1, z2, z3⟩ => a2 ⟨w, z1, by rw [hR.on (by omega)]; exact z2, z3⟩)⟩, fun m' hm' => ?_⟩⟩
    · refine (en_215 (d + 17) 192 (nI 2) (nI k) 0 0 _).trans ?_
      refine go_ild_5_1 rfl ?_
      refine go_sw2 (n := 77) rfl (by decide +kernel) ?_
      refine go_ald_5_0 rfl ?_
      refine go_getr rfl ⟨_, rfl, rfl, by decide, by decide⟩ ?_
      refine go_c rfl ?_
      refine go_iald (j := 32) rfl ⟨rfl, by decide, by decide, by decide⟩ rfl (by decide) ?_
      rw [hJm]
      refine go_ild_5_2 rfl ?_
      refine go_call2 rfl (sp_has (d + 16) J k (by omega) (by omega) _) (Nat.le_of_ble_eq_true rfl) rfl ?_
      rw [qB_f a1]
      refine go_ifeq rfl (fun e => ?_) (fun e => ?_)
      · refine go_ald_5_0 rfl ?_
        refine go_ild_5_2 rfl ?_
        refine go_call2 rfl (hcb) (Nat.le_of_ble_eq_true rfl) (qb_qv rfl (by decide) (by decide)) ?_
        refine go_ifeq rfl (fun e2 => ?_) (fun e2 => ?_)
        · refine go_c rfl ?_
          exact fin_i rfl rfl rfl
        · exact absurd (by rw [Classical.not_not.mp (fun z => a2 (hex.mpr z))]; rfl) e2
      · exact absurd rfl e
    · have hso : qm_so m' = qm_so m := funext fun k => hm' _
      obtain ⟨m2, b1, b2, b3⟩ := sp_turned (d + 16) m' c k (by omega)
      refine ⟨m2, ?_, by rw [b2, hso]; exact qt_turn_eq (by omega) hX, b3⟩
      refine (en_222 (d + 17) 192 (nI 2) (nI k) 0 0 0 _).trans ?_
      refine go_ild_6_1 rfl ?_
      refine go_sw2 (n := 45) rfl (by decide +kernel) ?_
      refine go_ald_6_0 rfl ?_
      refine go_ild_6_2 rfl ?_
      refine go_call2 rfl (b1) (Nat.le_of_ble_eq_true rfl) (qb_qv rfl (by decide) (by decide)) ?_
      exact fin_v rfl rfl
theorem qm_xor_or {J k : Nat} (h : ¬ J.testBit k = true) : J ||| 2 ^ k = J ^^^ 2 ^ k := by
  apply Nat.eq_of_testBit_eq
  intro j
  rw [Nat.testBit_or, Nat.testBit_xor, Nat.testBit_two_pow]
  by_cases e : k = j
  · subst e; rw [eq_false_of_ne_true h]; simp
  · simp [e]
/-- jam and free in the reference -/
theorem sp_live34 (d : Nat) (m : qb_M) (c : Nat × Nat) (vb : Nat) (hv : vb = 3 ∨ vb = 4) {J k : Nat} (hJ : qm_so m 2 = nI J) (hk : k < 10) : ∃ m2, qe (d + 1) 222 [.ref 192, .int (nI vb), .int (nI k), .int 0, .int 0, .int 0] (qb_hp (m), 149, c) = some (none, (qb_hp (m2), 149, c)) ∧ qm_so m2 = qs_u (qm_so m) 2 (nI (J ^^^ 2 ^ k)) ∧ qM_fr m m2 := by
  refine ⟨qb_ui m 194 32 (nI (J ^^^ 2 ^ k)), ?_, qm_so_w (k := 2) (by omega), qM_fr.rf.w (by omega) (by omega)⟩
  refine (en_222 d 192 (nI vb) (nI k) 0 0 0 _).trans ?_
  refine go_ild_6_1 rfl ?_
  refine go_sw2 (n := 51) rfl (by rcases hv with e | e <;> subst e <;> decide +kernel) ?_
  refine go_ald_6_0 rfl ?_
  refine go_getr rfl ⟨_, rfl, rfl, by decide, by decide⟩ ?_
  refine go_c rfl ?_
  refine go_dup2 rfl ?_
  refine go_iald (j := 32) rfl (⟨rfl, by decide, by decide, by decide⟩) (rfl) (by omega) ?_
  rw [show m.1 194 32 = nI J from hJ]
  refine go_c rfl ?_
  refine go_ild_6_2 rfl ?_
  refine go_ishl rfl ?_
  refine go_ixor rfl ?_
  rw [qx_1shl k (by omega), fb_xorI]
  refine go_iast (j := 32) rfl (⟨rfl, by decide, by decide, by decide⟩) (rfl) (by omega) ?_
  exact fin_v rfl rfl
theorem qT_jam (d : Nat) (x : Int32) : qT (d + 20) 85 228 [.int x] := by
  intro s c hZ
  have hp : ∃ nm : Nat, s.1 67 6 = nI nm := by
    obtain ⟨hx0, nw, nm, ns, V, F0, lo, hi, se, h1, _⟩ := hZ
    exact ⟨nm, h1.2.1.2.1⟩
  refine bo_switch d 85 228 3 s c x hZ (fun h R a b => eB_jam d s c x h R hp a b) (fun t R a b => eM_jam d c x t R a b) (fun nw nm ns V F0 lo hi se h1 H X J Lf Sh hI k hk hxk s1 m hR hm hf hm2 => ?_)
  subst hxk
  have hS := qS_145
  have hw := h1.1
  have h10 : 2 ^ nm ≤ 2 ^ 10 := Nat.pow_le_pow_right (by decide) (by omega)
  rw [← hm] at hI
  obtain ⟨-, ⟨hX, hX2⟩, ⟨hJ, hJ2⟩, hW⟩ := id hI
  have hJc : s1.1 145 6 = nI J := (hR.1 2 (by omega) (by omega)).trans hJ
  have hJm : m.1 194 32 = nI J := hJ
  have hmj := sp_makeJammed (d + 16) s1 c hS hJc (by omega) k (by omega)
  by_cases hb : J.testBit k = true
  · rw [if_pos hb] at hmj
    refine ⟨1, _, sp_perf3 (d + 13) s1 c _ _ _ _ hmj, qC_fr.rf, ⟨m, ?_, rfl, qM_fr.rf⟩, fun z => absurd z (by decide)⟩
    refine (en_215 (d + 17) 192 (nI 3) (nI k) 0 0 _).trans ?_
    refine go_ild_5_1 rfl ?_
    refine go_sw2 (n := 109) rfl (by decide +kernel) ?_
    refine go_ald_5_0 rfl ?_
    refine go_getr rfl ⟨_, rfl, rfl, by decide, by decide⟩ ?_
    refine go_c rfl ?_
    refine go_iald (j := 32) rfl ⟨rfl, by decide, by decide, by decide⟩ rfl (by decide) ?_
    rw [hJm]
    refine go_ild_5_2 rfl ?_
    refine go_call2 rfl (sp_has (d + 16) J k (by omega) (by omega) _) (Nat.le_of_ble_eq_true rfl) rfl ?_
    rw [qB_t hb]
    refine go_ifeq rfl (fun e => ?_) (fun e => ?_)
    · exact absurd e (by decide)
    · refine go_c rfl ?_
      refine go_goto rfl ?_
      exact fin_i rfl rfl rfl
  · rw [if_neg hb, qm_xor_or hb] at hmj
    refine ⟨0, _, sp_perf3 (d + 13) s1 c _ _ _ _ hmj, qC_fr.st (by decide) (qF.rf.ui (by decide)), ⟨m, ?_, rfl, qM_fr.rf⟩, fun _ => ⟨qs_u (qm_so m) 2 (nI (J ^^^ 2 ^ k)), ⟨by rw [qs_so_u6]; exact hR.u (by omega), H, X, _, Lf, Sh, hI.jam (Nat.xor_lt_two_pow hJ2 (Nat.pow_lt_pow_right (by decide) hk))⟩, fun m' hm' => ?_⟩⟩
    · refine (en_215 (d + 17) 192 (nI 3) (nI k) 0 0 _).trans ?_
      refine go_ild_5_1 rfl ?_
      refine go_sw2 (n := 109) rfl (by decide +kernel) ?_
      refine go_ald_5_0 rfl ?_
      refine go_getr rfl ⟨_, rfl, rfl, by decide, by decide⟩ ?_
      refine go_c rfl ?_
      refine go_iald (j := 32) rfl ⟨rfl, by decide, by decide, by decide⟩ rfl (by decide) ?_
      rw [hJm]
      refine go_ild_5_2 rfl ?_
      refine go_call2 rfl (sp_has (d + 16) J k (by omega) (by omega) _) (Nat.le_of_ble_eq_true rfl) rfl ?_
      rw [qB_f hb]
      refine go_ifeq rfl (fun e => ?_) (fun e => ?_)
      · refine go_c rfl ?_
        exact fin_i rfl rfl rfl
      · exact absurd rfl e
    · have hso : qm_so m' = qm_so m := funext fun k => hm' _
      have := sp_live34 (d + 17) m' c 3 (Or.inl rfl) (J := J) (k := k) (by rw [hso]; exact hJ) (by omega)
      rw [hso] at this
      exact this
theorem qT_free (d : Nat) (x : Int32) : qT (d + 20) 86 229 [.int x] := by
  intro s c hZ
  have hp : ∃ nm : Nat, s.1 67 6 = nI nm := by
    obtain ⟨hx0, nw, nm, ns, V, F0, lo, hi, se, h1, _⟩ := hZ
    exact ⟨nm, h1.2.1.2.1⟩
  refine bo_switch d 86 229 4 s c x hZ (fun h R a b => eB_free d s c x h R hp a b) (fun t R a b => eM_free d c x t R a b) (fun nw nm ns V F0 lo hi se h1 H X J Lf Sh hI k hk hxk s1 m hR hm hf hm2 => ?_)
  subst hxk
  have hS := qS_145
  have hw := h1.1
  have h10 : 2 ^ nm ≤ 2 ^ 10 := Nat.pow_le_pow_right (by decide) (by omega)
  rw [← hm] at hI
  obtain ⟨-, ⟨hX, hX2⟩, ⟨hJ, hJ2⟩, hW⟩ := id hI
  have hJc : s1.1 145 6 = nI J := (hR.1 2 (by omega) (by omega)).trans hJ
  have hJm : m.1 194 32 = nI J := hJ
  have hmj := sp_makeFree (d + 16) s1 c hS hJc (by omega) k (by omega)
  by_cases hb : J.testBit k = true
  · rw [if_pos hb] at hmj
    refine ⟨0, _, sp_perf4 (d + 13) s1 c _ _ _ _ hmj, qC_fr.st (by decide) (qF.rf.ui (by decide)), ⟨m, ?_, rfl, qM_fr.rf⟩, fun _ => ⟨qs_u (qm_so m) 2 (nI (J ^^^ 2 ^ k)), ⟨by rw [qs_so_u6]; exact hR.u (by omega), H, X, _, Lf, Sh, hI.jam (Nat.xor_lt_two_pow hJ2 (Nat.pow_lt_pow_right (by decide) hk))⟩, fun m' hm' => ?_⟩⟩
    · refine (en_215 (d + 17) 192 (nI 4) (nI k) 0 0 _).trans ?_
      refine go_ild_5_1 rfl ?_
      refine go_sw2 (n := 129) rfl (by decide +kernel) ?_
      refine go_ald_5_0 rfl ?_
      refine go_getr rfl ⟨_, rfl, rfl, by decide, by decide⟩ ?_
      refine go_c rfl ?_
      refine go_iald (j := 32) rfl ⟨rfl, by decide, by decide, by decide⟩ rfl (by decide) ?_
      rw [hJm]
      refine go_ild_5_2 rfl ?_
      refine go_call2 rfl (sp_has (d + 16) J k (by omega) (by omega) _) (Nat.le_of_ble_eq_true rfl) rfl ?_
      rw [qB_t hb]
      refine go_ifeq rfl (fun e => ?_) (fun e => ?_)
      · exact absurd e (by decide)
      · refine go_c rfl ?_
        refine go_goto rfl ?_
        exact fin_i rfl rfl rfl
    · have hso : qm_so m' = qm_so m := funext fun k => hm' _
      have := sp_live34 (d + 17) m' c 4 (Or.inr rfl) (J := J) (k := k) (by rw [hso]; exact hJ) (by omega)
      rw [hso] at this
      exact this
  · rw [if_neg hb] at hmj
    refine ⟨1, _, sp_perf4 (d + 13) s1 c _ _ _ _ hmj, qC_fr.rf, ⟨m, ?_, rfl, qM_fr.rf⟩, fun z => absurd z (by decide)⟩
    refine (en_215 (d + 17) 192 (nI 4) (nI k) 0 0 _).trans ?_
    refine go_ild_5_1 rfl ?_
    refine go_sw2 (n := 129) rfl (by decide +kernel) ?_
    refine go_ald_5_0 rfl ?_
    refine go_getr rfl ⟨_, rfl, rfl, by decide, by decide⟩ ?_
    refine go_c rfl ?_
    refine go_iald (j := 32) rfl ⟨rfl, by decide, by decide, by decide⟩ rfl (by decide) ?_
    rw [hJm]
    refine go_ild_5_2 rfl ?_
    refine go_call2 rfl (sp_has (d + 16) J k (by omega) (by omega) _) (Nat.le_of_ble_eq_true rfl) rfl ?_
    rw [qB_f hb]
    refine go_ifeq rfl (fun e => ?_) (fun e => ?_)
    · refine go_c rfl ?_
      exact fin_i rfl rfl rfl
    · exact absurd rfl e
