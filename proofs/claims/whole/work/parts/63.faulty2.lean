/-! faulty: both -/
def fy_c (nw n : Nat) (B : Nat → Nat) : Prop := (2 ≤ n ∧ n ≤ 16 ∧ n % 2 = 0) ∧ ∀ k, k < n → B k < nw
theorem sp_suspects (d : Nat) (s : qb_M) (c : Nat × Nat) {nw nm : Nat} {lo hi : Nat → Nat} (hp : qP_pl s 67 nw nm lo hi) {X n : Nat} {B : Nat → Nat} (hX : s.1 73 5 = nI X) (hX2 : X < 1024) (hn : s.1 65 1 = nI n) (hn9 : n ≤ 940) (hB : ∀ k, k < n → s.1 66 k = nI (B k) ∧ B k < 256) : (fy_c nw n B → qe (d + 6) 106 [.ref 129, .ref 73, .ref 65] (qb_hp (s), 149, c) = some (some (.int (nI (qm_ac (fy_p lo hi nm X B (n / 2)) 11))), (qb_hp (s), 149, c))) ∧ (¬ fy_c nw n B → qe (d + 6) 106 [.ref 129, .ref 73, .ref 65] (qb_hp (s), 149, c) = some (some (.int (-1)), (qb_hp (s), 149, c))) := by
  have hS := qS_73
  have hok := hp.ok
  obtain ⟨p1, p2, ⟨p3, p4, p5⟩, p6⟩ := id hp
  have hrem : nI n - nI n / 2 * 2 = nI (n % 2) := pk_rem (d := 2) (by omega) (by decide) (by decide)
  have en : ∀ R, (2 ≤ n ∧ n ≤ 16 ∧ n % 2 = 0 → qa_lm (qe (d + 5)) (qa_cd qc_106) (30, [.ref 129, .ref 73, .ref 65, .int (nI 0), .retAddr 0], [], (qb_hp (s), 149, c)) = R) → (¬ (2 ≤ n ∧ n ≤ 16 ∧ n % 2 = 0) → some (some (.int (-1)), (qb_hp (s), 149, c)) = R) → qe (d + 6) 106 [.ref 129, .ref 73, .ref 65] (qb_hp (s), 149, c) = R := fun R g1 g2 => by
    refine (en_106 (d + 5) 129 73 65 _).trans ?_
    have bad : ¬ (2 ≤ n ∧ n ≤ 16 ∧ n % 2 = 0) → qa_lm (qe (d + 5)) (qa_cd qc_106) (26, [.ref 129, .ref 73, .ref 65, .retAddr 0, .retAddr 0], [], (qb_hp (s), 149, c)) = R := fun q => by
      have := g2 q
      refine go_c rfl ?_
      exact fin_i rfl rfl this
    refine go_ald_5_2 rfl ?_
    refine go_geti rfl ⟨_, rfl, rfl, by decide, by decide⟩ ?_
    refine go_c rfl ?_
    rw [hn]
    refine go_iclt rfl (fun e => ?_) (fun e => ?_)
    · exact bad (fun z => by have := (nI_ltI (b := 2) (by omega) (by decide)).mp e; omega)
    · refine go_ald_5_2 rfl ?_
      refine go_geti rfl ⟨_, rfl, rfl, by decide, by decide⟩ ?_
      refine go_c rfl ?_
      rw [hn]
      refine go_icgt rfl (fun e2 => ?_) (fun e2 => ?_)
      · exact bad (fun z => by have := (nI_ltI (a := 16) (by decide) (by omega)).mp e2; omega)
      · refine go_ald_5_2 rfl ?_
        refine go_geti rfl ⟨_, rfl, rfl, by decide, by decide⟩ ?_
        refine go_c rfl ?_
        refine go_irem rfl (by decide) ?_
        rw [hn, hrem]
        refine go_ifeq rfl (fun e3 => ?_) (fun e3 => ?_)
        · have e1 : ¬ n < 2 := fun z => e (nI_lt (b := 2) z (by decide))
          have e2 : ¬ 16 < n := fun z => e2 (nI_lt (a := 16) z (by omega))
          have e3 := (nI_eq (b := 0) (by omega) (by decide)).mp e3
          refine go_c rfl ?_
          refine go_ist_5_3 rfl rfl ?_
          exact g1 ⟨by omega, by omega, e3⟩
        · exact bad (fun z => e3 (by rw [z.2.2]; rfl))
  have l1 : 2 ≤ n ∧ n ≤ 16 ∧ n % 2 = 0 → ∀ R, ((∀ k, k < n → B k < nw) → qa_lm (qe (d + 5)) (qa_cd qc_106) (62, [.ref 129, .ref 73, .ref 65, .int (nI n), .retAddr 0], [], (qb_hp (s), 149, c)) = R) → (¬ (∀ k, k < n → B k < nw) → some (some (.int (-1)), (qb_hp (s), 149, c)) = R) → ∀ m k, k + m = n → (∀ j, j < k → B j < nw) → qa_lm (qe (d + 5)) (qa_cd qc_106) (30, [.ref 129, .ref 73, .ref 65, .int (nI k), .retAddr 0], [], (qb_hp (s), 149, c)) = R := by
    intro hc R g1 g2 m
    induction m with
    | zero =>
      intro k hk hj
      have hk : k = n := by omega
      subst hk
      refine go_ild_5_3 rfl ?_
      refine go_ald_5_2 rfl ?_
      refine go_geti rfl ⟨_, rfl, rfl, by decide, by decide⟩ ?_
      rw [hn]
      refine go_icge rfl (fun e => ?_) (fun e => ?_)
      · exact g1 hj
      · exact absurd (Int32.le_refl _) e
    | succ m ih =>
      intro k hk hj
      obtain ⟨b1, b2⟩ := hB k (by omega)
      have ih := ih (k + 1) (by omega)
      refine go_ild_5_3 rfl ?_
      refine go_ald_5_2 rfl ?_
      refine go_geti rfl ⟨_, rfl, rfl, by decide, by decide⟩ ?_
      rw [hn]
      refine go_icge rfl (fun e => ?_) (fun e => ?_)
      · exact absurd e (nI_ge (by omega) (by omega))
      · refine go_ald_5_2 rfl ?_
        refine go_getr rfl ⟨_, rfl, rfl, by decide, by decide⟩ ?_
        refine go_ild_5_3 rfl ?_
        refine go_iald (j := k) rfl (⟨rfl, by decide, by decide, by decide⟩) (rfl) (by omega) ?_
        rw [b1]
        refine go_ald_5_0 rfl ?_
        refine go_getr rfl ⟨_, rfl, rfl, by decide, by decide⟩ ?_
        refine go_geti rfl ⟨_, rfl, rfl, by decide, by decide⟩ ?_
        rw [p1]
        refine go_iclt rfl (fun e2 => ?_) (fun e2 => ?_)
        · have e2 := (nI_ltI (by omega) (by omega)).mp e2
          refine go_inc_5_3 rfl rfl ?_
          refine go_goto rfl ?_
          rw [nI_1]
          exact ih (fun j hj2 => by
            by_cases q : j = k
            · subst q; exact e2
            · exact hj j (by omega))
        · have := g2 (fun z => e2 (nI_lt (z k (by omega)) (by omega)))
          refine go_c rfl ?_
          exact fin_i rfl rfl this
  refine ⟨fun hc => en _ (fun h0 => l1 h0 _ (fun _ => ?_) (fun q => absurd hc.2 q) n 0 (by omega) (fun j hj => absurd hj (Nat.not_lt_zero j))) (fun q => absurd hc.1 q), fun hc => en _ (fun h0 => l1 h0 _ (fun q => absurd ⟨h0, q⟩ hc) (fun _ => rfl) n 0 (by omega) (fun j hj => absurd hj (Nat.not_lt_zero j))) (fun _ => rfl)⟩
  obtain ⟨h, hh⟩ : ∃ h, h = n / 2 := ⟨_, rfl⟩
  have h2 : n = 2 * h := by have := hc.1; omega
  rw [← hh]
  have loop : ∀ m f, f + m = 11 → qa_lm (qe (d + 5)) (qa_cd qc_106) (67, [.ref 129, .ref 73, .ref 65, .int (nI (qm_ac (fy_p lo hi nm X B h) f)), .int (nI f)], [], (qb_hp (s), 149, c)) = some (some (.int (nI (qm_ac (fy_p lo hi nm X B h) 11))), (qb_hp (s), 149, c)) := by
    intro m
    induction m with
    | zero =>
      intro f hf
      have hf : f = 11 := by omega
      subst hf
      refine go_ild_5_4 rfl ?_
      refine go_c rfl ?_
      refine go_icgt rfl (fun e => ?_) (fun e => ?_)
      · refine go_ild_5_3 rfl ?_
        exact fin_i rfl rfl rfl
      · exact absurd (by decide) e
    | succ m ih =>
      intro f hf
      have ih := ih (f + 1) (by omega)
      have hex := sp_explains (d + 1) s c hp (h := h) (B := B) (by rw [hn, h2]) (by have := hc.1; omega) (fun k hk => ⟨(hB k (by omega)).1, hc.2 k (by omega)⟩) (fy_s X f) (fy_s_lt hX2 (by omega))
      have no : ¬ fy_p lo hi nm X B h f = true → qa_lm (qe (d + 5)) (qa_cd qc_106) (114, [.ref 129, .ref 73, .ref 65, .int (nI (qm_ac (fy_p lo hi nm X B h) f)), .int (nI f)], [], (qb_hp (s), 149, c)) = some (some (.int (nI (qm_ac (fy_p lo hi nm X B h) 11))), (qb_hp (s), 149, c)) := fun q => by
        rw [qx_unset q]
        refine go_inc_5_4 rfl rfl ?_
        refine go_goto rfl ?_
        rw [nI_1]
        exact ih
      have mid : (decide (f < nm) || decide (f = 10)) = true → qa_lm (qe (d + 5)) (qa_cd qc_106) (93, [.ref 129, .ref 73, .ref 65, .int (nI (qm_ac (fy_p lo hi nm X B h) f)), .int (nI f)], [], (qb_hp (s), 149, c)) = some (some (.int (nI (qm_ac (fy_p lo hi nm X B h) 11))), (qb_hp (s), 149, c)) := fun q => by
        refine go_ald_5_0 rfl ?_
        refine go_ald_5_1 rfl ?_
        refine go_ild_5_4 rfl ?_
        refine go_call2 rfl (sp_settingBy (d + 4) s c hX f (by omega)) (Nat.le_of_ble_eq_true rfl) rfl ?_
        refine go_ald_5_2 rfl ?_
        refine go_call3 rfl (hex) (Nat.le_of_ble_eq_true rfl) (qb_qv rfl (by decide) (by decide)) ?_
        refine go_ifeq rfl (fun e => ?_) (fun e => ?_)
        · exact no (fun z => qB_0.mp e (by unfold fy_p at z; rw [Bool.and_eq_true] at z; exact z.2))
        · have e : fy_ex lo hi nm B h (fy_s X f) = true := Classical.byContradiction fun z => e (qB_f z)
          refine go_ild_5_3 rfl ?_
          refine go_c rfl ?_
          refine go_ild_5_4 rfl ?_
          refine go_ishl rfl ?_
          refine go_ior rfl ?_
          rw [qx_set (p := fy_p lo hi nm X B h) (by omega) (by unfold fy_p; rw [q, e]; rfl)]
          refine go_ist_5_3 rfl rfl ?_
          refine go_inc_5_4 rfl rfl ?_
          refine go_goto rfl ?_
          rw [nI_1]
          exact ih
      refine go_ild_5_4 rfl ?_
      refine go_c rfl ?_
      refine go_icgt rfl (fun e => ?_) (fun e => ?_)
      · exact absurd e (Int32.not_lt.mpr (nI_le (b := 10) (by omega) (by decide)))
      · refine go_ild_5_4 rfl ?_
        refine go_ald_5_0 rfl ?_
        refine go_getr rfl ⟨_, rfl, rfl, by decide, by decide⟩ ?_
        refine go_geti rfl ⟨_, rfl, rfl, by decide, by decide⟩ ?_
        rw [p2]
        refine go_iclt rfl (fun e2 => ?_) (fun e2 => ?_)
        · exact mid (by rw [decide_eq_true ((nI_ltI (by omega) (by omega)).mp e2)]; rfl)
        · have e2 : ¬ f < nm := fun z => e2 (nI_lt z (by omega))
          refine go_ild_5_4 rfl ?_
          refine go_c rfl ?_
          refine go_icne rfl (fun e3 => ?_) (fun e3 => ?_)
          · exact mid (by rw [decide_eq_true ((nI_eq (b := 10) (by omega) (by decide)).mp e3), Bool.or_true])
          · exact no (fun z => by
              unfold fy_p at z
              rw [Bool.and_eq_true, decide_eq_false e2, decide_eq_false (fun q => e3 (by rw [q]; rfl))] at z
              exact absurd z.1 (by decide))
  refine go_c rfl ?_
  refine go_ist_5_3 rfl rfl ?_
  refine go_c rfl ?_
  refine go_ist_5_4 rfl rfl ?_
  exact loop 11 0 (by omega)
theorem sp_faultyM (d : Nat) (s : qb_M) (c : Nat × Nat) {nw nm : Nat} {lo hi : Nat → Nat} (hp : qm_pl s nw nm lo hi) {X n : Nat} {B : Nat → Nat} (hX : s.1 194 31 = nI X) (hX2 : X < 1024) (hn : s.1 192 2 = nI n) (hn9 : n ≤ 940) (hB : ∀ k, k < n → s.1 193 k = nI (B k) ∧ B k < 256) : ∃ u, qG (fun x k => x = 192 ∧ (k = 0 ∨ k = 2 ∨ k = 31) ∨ x = 207) s u ∧ u.1 192 2 = 0 ∧ (fy_c nw n B → qe (d + 7) 248 [.ref 192] (qb_hp (s), 149, c) = some (some (.int (nI (qm_ac (fy_p lo hi nm X B (n / 2)) 11))), (qb_hp (u), 149, c)) ∧ u.1 192 31 = if qm_ac (fy_p lo hi nm X B (n / 2)) 11 = 0 then s.1 192 31 else nI (fy_t (fun i => fy_M lo hi nm X (qm_ac (fy_p lo hi nm X B (n / 2)) 11) i 11) (nw - 1))) ∧ (¬ fy_c nw n B → qe (d + 7) 248 [.ref 192] (qb_hp (s), 149, c) = some (some (.int (-1)), (qb_hp (u), 149, c)) ∧ u.1 192 31 = s.1 192 31) := by
  have hok := hp.ok
  obtain ⟨p1, p2, ⟨p3, p4, p5⟩, p6⟩ := id hp
  have hrem : nI n - nI n / 2 * 2 = nI (n % 2) := pk_rem (d := 2) (by omega) (by decide) (by decide)
  have hdiv : nI n / 2 = nI (n / 2) := pk_div (d := 2) (by omega) (by decide) (by decide)
  obtain ⟨v, hv⟩ : ∃ v, v = qb_ui (qb_ui s 192 0 0) 192 2 0 := ⟨_, rfl⟩
  have hsv : qG (fun x k => x = 192 ∧ (k = 0 ∨ k = 2)) s v := by rw [hv]; exact (qG.rf.ui (by omega)).ui (by omega)
  have hv2 : v.1 192 2 = 0 := by rw [hv]; exact qb_ui_1s
  have hv31 : v.1 192 31 = s.1 192 31 := hsv.i (by omega)
  have hpv : qm_pl v nw nm lo hi := by
    unfold qm_pl
    rw [show v.1 194 = s.1 194 from funext fun k => hsv.i (by omega)]
    exact hp
  have hXv : v.1 194 31 = nI X := (hsv.i (by omega)).trans hX
  have en : ∀ R, (2 ≤ n ∧ n ≤ 16 ∧ n % 2 = 0 → qa_lm (qe (d + 6)) (qa_cd qc_248) (32, [.ref 192, .int (nI n), .int (nI 0), .retAddr 0], [], (qb_hp (v), 149, c)) = R) → (¬ (2 ≤ n ∧ n ≤ 16 ∧ n % 2 = 0) → some (some (.int (-1)), (qb_hp (v), 149, c)) = R) → qe (d + 7) 248 [.ref 192] (qb_hp (s), 149, c) = R := fun R g1 g2 => by
    have hs2 : (qb_ui s 192 0 0).1 192 2 = nI n := (qb_ui_1n (by omega)).trans hn
    have htk := sp_take (d + 5) (qb_ui s 192 0 0) c
    rw [hs2, ← hv] at htk
    have bad : ¬ (2 ≤ n ∧ n ≤ 16 ∧ n % 2 = 0) → qa_lm (qe (d + 6)) (qa_cd qc_248) (28, [.ref 192, .int (nI n), .retAddr 0, .retAddr 0], [], (qb_hp (v), 149, c)) = R := fun q => by
      have := g2 q
      refine go_c rfl ?_
      exact fin_i rfl rfl this
    refine (en_248 (d + 6) 192 _).trans ?_
    refine go_ald_4_0 rfl ?_
    refine go_c rfl ?_
    refine go_puti rfl ⟨_, rfl, rfl, by decide, by decide⟩ rfl rfl ?_
    refine go_ald_4_0 rfl ?_
    refine go_call1 rfl (htk) (Nat.le_of_ble_eq_true rfl) (qb_qv rfl (by decide) (by decide)) ?_
    refine go_ist_4_1 rfl rfl ?_
    refine go_ild_4_1 rfl ?_
    refine go_c rfl ?_
    refine go_irem rfl (by decide) ?_
    rw [hrem]
    refine go_ifne rfl (fun e => ?_) (fun e => ?_)
    · have e := (nI_eq (b := 0) (by omega) (by decide)).mp e
      refine go_ild_4_1 rfl ?_
      refine go_c rfl ?_
      refine go_idiv rfl (by decide) ?_
      rw [hdiv]
      refine go_c rfl ?_
      refine go_c rfl ?_
      refine go_call3 rfl (sp_isIn (d + 5) _ _ _ _) (Nat.le_of_ble_eq_true rfl) rfl ?_
      refine go_ifne rfl (fun e2 => ?_) (fun e2 => ?_)
      · exact bad (fun z => qB_0.mp e2 ⟨nI_le (a := 1) (by omega) (by omega), nI_le (b := 8) (by omega) (by decide)⟩)
      · have e2 : 1 ≤ nI (n / 2) ∧ nI (n / 2) ≤ 8 := Classical.byContradiction fun z => e2 (qB_f z)
        have e3 := (nI_leI (a := 1) (by decide) (by omega)).mp e2.1
        have e4 := (nI_leI (b := 8) (by omega) (by decide)).mp e2.2
        refine go_c rfl ?_
        refine go_ist_4_2 rfl rfl ?_
        exact g1 ⟨by omega, by omega, e⟩
    · exact bad (fun z => e (by rw [z.2.2]; rfl))
  have l1 : 2 ≤ n ∧ n ≤ 16 ∧ n % 2 = 0 → ∀ R, ((∀ k, k < n → B k < nw) → qa_lm (qe (d + 6)) (qa_cd qc_248) (58, [.ref 192, .int (nI n), .int (nI n), .retAddr 0], [], (qb_hp (v), 149, c)) = R) → (¬ (∀ k, k < n → B k < nw) → some (some (.int (-1)), (qb_hp (v), 149, c)) = R) → ∀ m k, k + m = n → (∀ j, j < k → B j < nw) → qa_lm (qe (d + 6)) (qa_cd qc_248) (32, [.ref 192, .int (nI n), .int (nI k), .retAddr 0], [], (qb_hp (v), 149, c)) = R := by
    intro hc R g1 g2 m
    induction m with
    | zero =>
      intro k hk hj
      have hk : k = n := by omega
      subst hk
      refine go_ild_4_2 rfl ?_
      refine go_ild_4_1 rfl ?_
      refine go_icge rfl (fun e => ?_) (fun e => ?_)
      · exact g1 hj
      · exact absurd (Int32.le_refl _) e
    | succ m ih =>
      intro k hk hj
      obtain ⟨b1, b2⟩ := hB k (by omega)
      have b1v : v.1 193 k = nI (B k) := (hsv.i (by omega)).trans b1
      have ih := ih (k + 1) (by omega)
      refine go_ild_4_2 rfl ?_
      refine go_ild_4_1 rfl ?_
      refine go_icge rfl (fun e => ?_) (fun e => ?_)
      · exact absurd e (nI_ge (by omega) (by omega))
      · refine go_ald_4_0 rfl ?_
        refine go_ald_4_0 rfl ?_
        refine go_getr rfl ⟨_, rfl, rfl, by decide, by decide⟩ ?_
        refine go_ild_4_2 rfl ?_
        refine go_iald (j := k) rfl (⟨rfl, by decide, by decide, by decide⟩) (rfl) (by omega) ?_
        rw [b1v]
        refine go_call2 rfl (sp_isWire (d + 4) v c (nw := nw) hpv.1 p3 p4 _) (Nat.le_of_ble_eq_true rfl) (qb_qv rfl (by decide) (by decide)) ?_
        refine go_ifne rfl (fun e2 => ?_) (fun e2 => ?_)
        · have := g2 (fun z => qB_0.mp e2 ⟨nI_le (a := 0) (Nat.zero_le _) (by omega), nI_lt (z k (by omega)) (by omega)⟩)
          refine go_c rfl ?_
          exact fin_i rfl rfl this
        · have e2 : 0 ≤ nI (B k) ∧ nI (B k) < nI nw := Classical.byContradiction fun z => e2 (qB_f z)
          have e2 := (nI_ltI (by omega) (by omega)).mp e2.2
          refine go_inc_4_2 rfl rfl ?_
          refine go_goto rfl ?_
          rw [nI_1]
          exact ih (fun j hj2 => by
            by_cases q : j = k
            · subst q; exact e2
            · exact hj j (by omega))
  by_cases hc : fy_c nw n B
  · obtain ⟨h, hh⟩ : ∃ h, h = n / 2 := ⟨_, rfl⟩
    have h2 : n = 2 * h := by have := hc.1; omega
    rw [← hh]
    obtain ⟨S, hSS⟩ : ∃ S, S = qm_ac (fy_p lo hi nm X B h) 11 := ⟨_, rfl⟩
    have hS2 : S < 2 ^ 11 := by rw [hSS]; exact qm_ac_lt _ 11
    have loop : ∀ R, qa_lm (qe (d + 6)) (qa_cd qc_248) (103, [.ref 192, .int (nI n), .int (nI S), .int (nI 11)], [], (qb_hp (v), 149, c)) = R → ∀ m f, f + m = 11 → qa_lm (qe (d + 6)) (qa_cd qc_248) (62, [.ref 192, .int (nI n), .int (nI (qm_ac (fy_p lo hi nm X B h) f)), .int (nI f)], [], (qb_hp (v), 149, c)) = R := by
      intro R hR m
      induction m with
      | zero =>
        intro f hf
        have hf : f = 11 := by omega
        subst hf
        refine go_ild_4_3 rfl ?_
        refine go_c rfl ?_
        refine go_icgt rfl (fun e => ?_) (fun e => ?_)
        · rw [← hSS]
          exact hR
        · exact absurd (by decide) e
      | succ m ih =>
        intro f hf
        have ih := ih (f + 1) (by omega)
        have hex := sp_explainsM (d + 1) v c hpv (X := X) (h := h) (B := B) hXv hX2 (by have := hc.1; omega) (fun k hk => ⟨(hsv.i (by omega)).trans (hB k (by omega)).1, hc.2 k (by omega)⟩) f (by omega)
        rw [← h2] at hex
        have no : ¬ fy_p lo hi nm X B h f = true → qa_lm (qe (d + 6)) (qa_cd qc_248) (97, [.ref 192, .int (nI n), .int (nI (qm_ac (fy_p lo hi nm X B h) f)), .int (nI f)], [], (qb_hp (v), 149, c)) = R := fun q => by
          rw [qx_unset q]
          refine go_inc_4_3 rfl rfl ?_
          refine go_goto rfl ?_
          rw [nI_1]
          exact ih
        have mid : (decide (f < nm) || decide (f = 10)) = true → qa_lm (qe (d + 6)) (qa_cd qc_248) (82, [.ref 192, .int (nI n), .int (nI (qm_ac (fy_p lo hi nm X B h) f)), .int (nI f)], [], (qb_hp (v), 149, c)) = R := fun q => by
          refine go_ald_4_0 rfl ?_
          refine go_ild_4_3 rfl ?_
          refine go_ild_4_1 rfl ?_
          refine go_call3 rfl (hex) (Nat.le_of_ble_eq_true rfl) (qb_qv rfl (by decide) (by decide)) ?_
          refine go_ifeq rfl (fun e => ?_) (fun e => ?_)
          · exact no (fun z => qB_0.mp e (by unfold fy_p at z; rw [Bool.and_eq_true] at z; exact z.2))
          · have e : fy_ex lo hi nm B h (fy_s X f) = true := Classical.byContradiction fun z => e (qB_f z)
            refine go_ild_4_2 rfl ?_
            refine go_c rfl ?_
            refine go_ild_4_3 rfl ?_
            refine go_ishl rfl ?_
            refine go_ior rfl ?_
            rw [qx_set (p := fy_p lo hi nm X B h) (by omega) (by unfold fy_p; rw [q, e]; rfl)]
            refine go_ist_4_2 rfl rfl ?_
            refine go_inc_4_3 rfl rfl ?_
            refine go_goto rfl ?_
            rw [nI_1]
            exact ih
        refine go_ild_4_3 rfl ?_
        refine go_c rfl ?_
        refine go_icgt rfl (fun e => ?_) (fun e => ?_)
        · exact absurd e (Int32.not_lt.mpr (nI_le (b := 10) (by omega) (by decide)))
        · refine go_ild_4_3 rfl ?_
          refine go_c rfl ?_
          refine go_iceq rfl (fun e2 => ?_) (fun e2 => ?_)
          · exact mid (by rw [decide_eq_true ((nI_eq (b := 10) (by omega) (by decide)).mp e2), Bool.or_true])
          · have e2 : ¬ f = 10 := fun z => e2 (by rw [z]; rfl)
            refine go_ald_4_0 rfl ?_
            refine go_ild_4_3 rfl ?_
            refine go_call2 rfl (sp_isSwitch (d + 4) v c (nm := nm) hpv.2.1 p5 _) (Nat.le_of_ble_eq_true rfl) (qb_qv rfl (by decide) (by decide)) ?_
            refine go_ifeq rfl (fun e3 => ?_) (fun e3 => ?_)
            · exact no (fun z => by
                unfold fy_p at z
                rw [Bool.and_eq_true, decide_eq_false e2, Bool.or_false, decide_eq_true_eq] at z
                exact qB_0.mp e3 ⟨nI_le (a := 0) (Nat.zero_le _) (by omega), nI_lt z.1 (by omega)⟩)
            · have e3 : 0 ≤ nI f ∧ nI f < nI nm := Classical.byContradiction fun z => e3 (qB_f z)
              exact mid (by rw [decide_eq_true ((nI_ltI (by omega) (by omega)).mp e3.2)]; rfl)
    have go : ∀ R, qa_lm (qe (d + 6)) (qa_cd qc_248) (103, [.ref 192, .int (nI n), .int (nI S), .int (nI 11)], [], (qb_hp (v), 149, c)) = R → qe (d + 7) 248 [.ref 192] (qb_hp (s), 149, c) = R := fun R hR => by
      refine en R (fun h0 => l1 h0 _ (fun _ => ?_) (fun q => absurd hc.2 q) n 0 (by omega) (fun j hj => absurd hj (Nat.not_lt_zero j))) (fun q => absurd hc.1 q)
      refine go_c rfl ?_
      refine go_ist_4_2 rfl rfl ?_
      refine go_c rfl ?_
      refine go_ist_4_3 rfl rfl ?_
      exact loop R hR 11 0 (by omega)
    rw [← hSS]
    by_cases h0 : S = 0
    · refine ⟨v, hsv.mo (fun x k h => by omega), hv2, fun _ => ⟨go _ ?_, by rw [if_pos h0]; exact hv31⟩, fun q => absurd hc q⟩
      refine go_ild_4_2 rfl ?_
      refine go_ifne rfl (fun e => ?_) (fun e => ?_)
      · refine go_c rfl ?_
        rw [h0]
        exact fin_i rfl rfl rfl
      · exact absurd (by rw [h0]; rfl) e
    · have two : ∀ m k (t : qb_M), k + 1 + m = nw → qG (fun x k => x = 192 ∧ (k = 0 ∨ k = 2 ∨ k = 31) ∨ x = 207) s t → t.1 192 2 = 0 → t.1 192 31 = nI (fy_t (fun i => fy_M lo hi nm X S i 11) k) → ∃ z, qa_lm (qe (d + 6)) (qa_cd qc_248) (116, [.ref 192, .int (nI n), .int (nI S), .int (nI (k + 1))], [], (qb_hp (t), 149, c)) = some (some (.int (nI S)), (qb_hp (z), 149, c)) ∧ qG (fun x k => x = 192 ∧ (k = 0 ∨ k = 2 ∨ k = 31) ∨ x = 207) s z ∧ z.1 192 2 = 0 ∧ z.1 192 31 = nI (fy_t (fun i => fy_M lo hi nm X S i 11) (nw - 1)) := by
        intro m
        induction m with
        | zero =>
          intro k t hk hG h2 h31
          have hk : nw = k + 1 := by omega
          refine ⟨t, ?_, hG, h2, by rw [h31, hk]; rfl⟩
          refine go_ild_4_3 rfl ?_
          refine go_ald_4_0 rfl ?_
          refine go_getr rfl ⟨_, rfl, rfl, by decide, by decide⟩ ?_
          refine go_c rfl ?_
          refine go_iald (j := 0) rfl ⟨rfl, by decide, by decide, by decide⟩ rfl (by decide) ?_
          rw [show t.1 194 0 = nI nw from (hG.i (by omega)).trans p1]
          refine go_icge rfl (fun e => ?_) (fun e => ?_)
          · refine go_ild_4_2 rfl ?_
            exact fin_i rfl rfl rfl
          · exact absurd (by rw [hk]; exact Int32.le_refl _) e
        | succ m ih =>
          intro k t hk hG h2 h31
          have hpl : ∀ t : qb_M, qG (fun x k => x = 192 ∧ (k = 0 ∨ k = 2 ∨ k = 31) ∨ x = 207) s t → qm_pl t nw nm lo hi := fun t ht => by
            unfold qm_pl
            rw [show t.1 194 = s.1 194 from funext fun k => ht.i (by omega)]
            exact hp
          have htl := fy_t_le (fun i => fy_M lo hi nm X S i 11) k
          obtain ⟨a, a1, a2⟩ := sp_leftBy (d + 1) t c (hpl t hG) (X := X) (S := S) (i := k + 1) ((hG.i (by omega)).trans hX) hX2 hS2 (by omega)
          have hGa := hG.tr (a2.G.mo (fun x k h => Or.inr h))
          obtain ⟨b, b1, b2⟩ := sp_leftBy (d + 1) a c (hpl a hGa) (X := X) (S := S) (i := fy_t (fun i => fy_M lo hi nm X S i 11) k) ((hGa.i (by omega)).trans hX) hX2 hS2 (by omega)
          have hGb := hGa.tr (b2.G.mo (fun x k h => Or.inr h))
          have hb2 : b.1 192 2 = 0 := (b2.i (by decide)).trans ((a2.i (by decide)).trans h2)
          have ha31 : a.1 192 31 = nI (fy_t (fun i => fy_M lo hi nm X S i 11) k) := (a2.i (by decide)).trans h31
          have hb31 : b.1 192 31 = nI (fy_t (fun i => fy_M lo hi nm X S i 11) k) := (b2.i (by decide)).trans ha31
          have hs : fy_t (fun i => fy_M lo hi nm X S i 11) (k + 1) = if fy_M lo hi nm X S (k + 1) 11 < fy_M lo hi nm X S (fy_t (fun i => fy_M lo hi nm X S i 11) k) 11 then k + 1 else fy_t (fun i => fy_M lo hi nm X S i 11) k := rfl
          have q1 : fy_M lo hi nm X S (k + 1) 11 ≤ 11 := fy_M_le 11
          have q2 : fy_M lo hi nm X S (fy_t (fun i => fy_M lo hi nm X S i 11) k) 11 ≤ 11 := fy_M_le 11
          by_cases hlt : fy_M lo hi nm X S (k + 1) 11 < fy_M lo hi nm X S (fy_t (fun i => fy_M lo hi nm X S i 11) k) 11
          · rw [if_pos hlt] at hs
            obtain ⟨z, z1, z2⟩ := ih (k + 1) (qb_ui b 192 31 (nI (k + 1))) (by omega) (hGb.ui (by omega)) ((qb_ui_1n (by omega)).trans hb2) (by rw [hs]; exact qb_ui_1s)
            refine ⟨z, ?_, z2⟩
            refine go_ild_4_3 rfl ?_
            refine go_ald_4_0 rfl ?_
            refine go_getr rfl ⟨_, rfl, rfl, by decide, by decide⟩ ?_
            refine go_c rfl ?_
            refine go_iald (j := 0) rfl ⟨rfl, by decide, by decide, by decide⟩ rfl (by decide) ?_
            rw [show t.1 194 0 = nI nw from (hG.i (by omega)).trans p1]
            refine go_icge rfl (fun e => ?_) (fun e => ?_)
            · exact absurd e (nI_ge (by omega) (by omega))
            · refine go_ald_4_0 rfl ?_
              refine go_ild_4_3 rfl ?_
              refine go_ild_4_2 rfl ?_
              refine go_call3 rfl (a1) (Nat.le_of_ble_eq_true rfl) (qb_qv rfl (by decide) (by decide)) ?_
              refine go_ald_4_0 rfl ?_
              refine go_ald_4_0 rfl ?_
              refine go_geti rfl ⟨_, rfl, rfl, by decide, by decide⟩ ?_
              rw [ha31]
              refine go_ild_4_2 rfl ?_
              refine go_call3 rfl (b1) (Nat.le_of_ble_eq_true rfl) (qb_qv rfl (by decide) (by decide)) ?_
              refine go_icge rfl (fun e2 => ?_) (fun e2 => ?_)
              · exact absurd e2 (nI_ge hlt (by omega))
              · refine go_ald_4_0 rfl ?_
                refine go_ild_4_3 rfl ?_
                refine go_puti rfl ⟨_, rfl, rfl, by decide, by decide⟩ rfl rfl ?_
                refine go_inc_4_3 rfl rfl ?_
                refine go_goto rfl ?_
                rw [nI_1]
                exact z1
          · rw [if_neg hlt] at hs
            obtain ⟨z, z1, z2⟩ := ih (k + 1) b (by omega) hGb hb2 (by rw [hs]; exact hb31)
            refine ⟨z, ?_, z2⟩
            refine go_ild_4_3 rfl ?_
            refine go_ald_4_0 rfl ?_
            refine go_getr rfl ⟨_, rfl, rfl, by decide, by decide⟩ ?_
            refine go_c rfl ?_
            refine go_iald (j := 0) rfl ⟨rfl, by decide, by decide, by decide⟩ rfl (by decide) ?_
            rw [show t.1 194 0 = nI nw from (hG.i (by omega)).trans p1]
            refine go_icge rfl (fun e => ?_) (fun e => ?_)
            · exact absurd e (nI_ge (by omega) (by omega))
            · refine go_ald_4_0 rfl ?_
              refine go_ild_4_3 rfl ?_
              refine go_ild_4_2 rfl ?_
              refine go_call3 rfl (a1) (Nat.le_of_ble_eq_true rfl) (qb_qv rfl (by decide) (by decide)) ?_
              refine go_ald_4_0 rfl ?_
              refine go_ald_4_0 rfl ?_
              refine go_geti rfl ⟨_, rfl, rfl, by decide, by decide⟩ ?_
              rw [ha31]
              refine go_ild_4_2 rfl ?_
              refine go_call3 rfl (b1) (Nat.le_of_ble_eq_true rfl) (qb_qv rfl (by decide) (by decide)) ?_
              refine go_icge rfl (fun e2 => ?_) (fun e2 => ?_)
              · refine go_inc_4_3 rfl rfl ?_
                refine go_goto rfl ?_
                rw [nI_1]
                exact z1
              · exact absurd ((nI_ltI (by omega) (by omega)).mp (Int32.not_le.mp e2)) hlt
      obtain ⟨z, z1, z2, z3, z4⟩ := two (nw - 1) 0 (qb_ui v 192 31 0) (by omega) ((hsv.mo (fun x k h => by omega)).ui (by omega)) ((qb_ui_1n (by omega)).trans hv2) qb_ui_1s
      refine ⟨z, z2, z3, fun _ => ⟨go _ ?_, by rw [if_neg h0]; exact z4⟩, fun q => absurd hc q⟩
      refine go_ild_4_2 rfl ?_
      refine go_ifne rfl (fun e => ?_) (fun e => ?_)
      · exact absurd ((nI_eq (b := 0) (by omega) (by decide)).mp e) h0
      · refine go_ald_4_0 rfl ?_
        refine go_c rfl ?_
        refine go_puti rfl ⟨_, rfl, rfl, by decide, by decide⟩ rfl rfl ?_
        refine go_c rfl ?_
        refine go_ist_4_3 rfl rfl ?_
        exact z1
  · exact ⟨v, hsv.mo (fun x k h => by omega), hv2, fun q => absurd q hc, fun _ => ⟨en _ (fun h0 => l1 h0 _ (fun q => absurd ⟨h0, q⟩ hc) (fun _ => rfl) n 0 (by omega) (fun j hj => absurd hj (Nat.not_lt_zero j))) (fun _ => rfl), hv31⟩⟩
theorem qT_faulty (d : Nat) : qT (d + 20) 105 248 [] := fun s c hZ => by
  obtain ⟨⟨hT, _, _, _, _, hr⟩, nw, nm, ns, V, F0, lo, hi, se, h1, h2, h3, h4⟩ := id hZ
  obtain ⟨hR, H, X, J, Lf, Sh, hI⟩ := id h2
  obtain ⟨n, t0, t1, t2, t3⟩ := hT
  have hb : ∀ k, ∃ b, k < n → b < 256 ∧ s.1 193 k = nI b := fun k => by
    by_cases hk : k < n
    · obtain ⟨b, b1, b2⟩ := (t3 k hk).2
      exact ⟨b, fun _ => ⟨b1, b2⟩⟩
    · exact ⟨0, fun z => absurd z hk⟩
  obtain ⟨B, hB⟩ := Classical.axiomOfChoice hb
  have hIc := hR.in hI
  have hX5 : s.1 73 5 = nI X := by rw [← qs_so_h (s := s) (a := 73) (k := 1) (by decide)]; exact hIc.2.1.1
  have h10 : 2 ^ nm ≤ 2 ^ 10 := Nat.pow_le_pow_right (by decide) h1.1.2.2.1
  have hX2 : X < 1024 := by have := hI.2.1.2; omega
  obtain ⟨a1, a2⟩ := sp_suspects (d + 13) s c h1.c (B := B) hX5 hX2 t1 t0 (fun k hk => ⟨(t3 k hk).1.trans (hB k hk).2, (hB k hk).1⟩)
  obtain ⟨v, hv⟩ : ∃ v, v = qb_ui s 65 1 0 := ⟨_, rfl⟩
  have hsv : qG (fun x k => x = 65 ∧ k = 1) s v := by rw [hv]; exact qG.rf.ui ⟨rfl, rfl⟩
  have hv1 : v.1 65 1 = 0 := by rw [hv]; exact qb_ui_1s
  have hm : ∀ t' : qb_M, qF (fun x => x < 192) s t' → _ := fun t' hf => sp_faultyM (d + 13) t' c (X := X) (n := n) (B := B) (h1.m.mv hf (by decide)) ((hf.i (by decide)).trans hI.2.1.1) hX2 ((hf.i (by decide)).trans t2) t0 (fun k hk => ⟨(hf.i (by decide)).trans (hB k hk).2, (hB k hk).1⟩)
  have fin : ∀ (t' u : qb_M), qG (fun x k => x = 64 ∧ k = 17 ∨ x = 65 ∧ k = 1 ∨ x = 132) s t' → t'.1 65 1 = 0 → qG (fun x k => x = 192 ∧ (k = 0 ∨ k = 2 ∨ k = 31) ∨ x = 207) t' u → u.1 192 2 = 0 → t'.1 64 17 = u.1 192 31 → qZ u := fun t' u f1 g1 f2 g2 g3 => by
    refine qZ_ans hZ ((f1.mo (fun x k h => by unfold qA_P; omega)).tr (f2.mo (fun x k h => by unfold qA_P; omega))) (qZt_0 ((f2.i (by omega)).trans g1) g2) ⟨?_, ?_, ?_, ?_⟩
    · rw [f2.i (by omega), f2.i (by omega), f1.i (by omega), f1.i (by omega)]
      exact hr.1
    · rw [f2.i (by omega), f2.i (by omega), f1.i (by omega), f1.i (by omega)]
      exact hr.2.1
    · rw [f2.i (by omega)]
      exact g3
    · rw [f2.i (by omega), f2.i (by omega), f1.i (by omega), f1.i (by omega)]
      exact hr.2.2.2
  by_cases hc : fy_c nw n B
  · have a1 := a1 hc
    obtain ⟨S, hSS⟩ : ∃ S, S = qm_ac (fy_p lo hi nm X B (n / 2)) 11 := ⟨_, rfl⟩
    have hS2 : S < 2 ^ 11 := by rw [hSS]; exact qm_ac_lt _ 11
    rw [← hSS] at a1
    by_cases h0 : S = 0
    · obtain ⟨u, u1, u2, u3, u4⟩ := hm v ((hsv.mo (fun x k h => by omega : ∀ x k, _ → x < 192)).F)
      obtain ⟨u5, u6⟩ := u3 hc
      rw [← hSS] at u5 u6
      rw [if_pos h0] at u6
      refine ⟨nI S, v, u, ?_, u5, fin v u (hsv.mo (fun x k h => by omega)) hv1 u1 u2 ?_⟩
      · refine (en_105 (d + 19) 64 _).trans ?_
        refine go_ald_2_0 rfl ?_
        refine go_getr rfl ⟨_, rfl, rfl, by decide, by decide⟩ ?_
        refine go_ald_2_0 rfl ?_
        refine go_getr rfl ⟨_, rfl, rfl, by decide, by decide⟩ ?_
        refine go_ald_2_0 rfl ?_
        refine go_getr rfl ⟨_, rfl, rfl, by decide, by decide⟩ ?_
        refine go_call3 rfl (a1) (Nat.le_of_ble_eq_true rfl) (qb_qv rfl (by decide) (by decide)) ?_
        refine go_ist_2_1 rfl rfl ?_
        refine go_ald_2_0 rfl ?_
        refine go_getr rfl ⟨_, rfl, rfl, by decide, by decide⟩ ?_
        refine go_c rfl ?_
        refine go_puti rfl ⟨_, rfl, rfl, by decide, by decide⟩ rfl rfl ?_
        refine go_ild_2_1 rfl ?_
        rw [← hv]
        refine go_ifle rfl (fun e => ?_) (fun e => ?_)
        · refine go_ild_2_1 rfl ?_
          exact fin_i rfl rfl rfl
        · exact absurd (by rw [h0]; exact Int32.le_refl _) e
      · rw [u6, hsv.i (by omega), hsv.i (by omega)]
        exact hr.2.2.1
    · obtain ⟨w, w1, w2⟩ := sp_bestTrial (d + 14) v c (X := X) (S := S) (h1.c.mv ((hsv.mo (fun x k h => h.1 : ∀ x k, _ → x = 65)).F) (by decide) (by decide) (by decide)) ((hsv.i (by omega)).trans hX5) hX2 hS2
      obtain ⟨w', hw'⟩ : ∃ w', w' = qb_ui w 64 17 (nI (fy_t (fun i => fy_M lo hi nm X S i 11) (nw - 1))) := ⟨_, rfl⟩
      have fw : qG (fun x k => x = 64 ∧ k = 17 ∨ x = 65 ∧ k = 1 ∨ x = 132) s w' := by
        rw [hw']
        exact ((hsv.mo (fun x k h => by omega)).tr (w2.G.mo (fun x k h => by omega))).ui (by omega)
      obtain ⟨u, u1, u2, u3, u4⟩ := hm w' ((fw.mo (fun x k h => by omega : ∀ x k, _ → x < 192)).F)
      obtain ⟨u5, u6⟩ := u3 hc
      rw [← hSS] at u5 u6
      rw [if_neg h0] at u6
      refine ⟨nI S, w', u, ?_, u5, fin w' u fw ?_ u1 u2 ?_⟩
      · refine (en_105 (d + 19) 64 _).trans ?_
        refine go_ald_2_0 rfl ?_
        refine go_getr rfl ⟨_, rfl, rfl, by decide, by decide⟩ ?_
        refine go_ald_2_0 rfl ?_
        refine go_getr rfl ⟨_, rfl, rfl, by decide, by decide⟩ ?_
        refine go_ald_2_0 rfl ?_
        refine go_getr rfl ⟨_, rfl, rfl, by decide, by decide⟩ ?_
        refine go_call3 rfl (a1) (Nat.le_of_ble_eq_true rfl) (qb_qv rfl (by decide) (by decide)) ?_
        refine go_ist_2_1 rfl rfl ?_
        refine go_ald_2_0 rfl ?_
        refine go_getr rfl ⟨_, rfl, rfl, by decide, by decide⟩ ?_
        refine go_c rfl ?_
        refine go_puti rfl ⟨_, rfl, rfl, by decide, by decide⟩ rfl rfl ?_
        refine go_ild_2_1 rfl ?_
        rw [← hv]
        refine go_ifle rfl (fun e => ?_) (fun e => ?_)
        · exact absurd ((nI_leI (b := 0) (by omega) (by decide)).mp e) (by omega)
        · refine go_ald_2_0 rfl ?_
          refine go_ald_2_0 rfl ?_
          refine go_getr rfl ⟨_, rfl, rfl, by decide, by decide⟩ ?_
          refine go_ald_2_0 rfl ?_
          refine go_getr rfl ⟨_, rfl, rfl, by decide, by decide⟩ ?_
          refine go_ild_2_1 rfl ?_
          refine go_call3 rfl (w1) (Nat.le_of_ble_eq_true rfl) (qb_qv rfl (by decide) (by decide)) ?_
          refine go_puti rfl ⟨_, rfl, rfl, by decide, by decide⟩ rfl rfl ?_
          refine go_ild_2_1 rfl ?_
          rw [hw']
          exact fin_i rfl rfl rfl
      · rw [hw']
        exact (qb_ui_1n (by omega)).trans ((w2.i (by decide)).trans hv1)
      · rw [u6, hw']
        exact qb_ui_1s
  · have a2 := a2 hc
    obtain ⟨u, u1, u2, u3, u4⟩ := hm v ((hsv.mo (fun x k h => by omega : ∀ x k, _ → x < 192)).F)
    obtain ⟨u5, u6⟩ := u4 hc
    refine ⟨-1, v, u, ?_, u5, fin v u (hsv.mo (fun x k h => by omega)) hv1 u1 u2 ?_⟩
    · refine (en_105 (d + 19) 64 _).trans ?_
      refine go_ald_2_0 rfl ?_
      refine go_getr rfl ⟨_, rfl, rfl, by decide, by decide⟩ ?_
      refine go_ald_2_0 rfl ?_
      refine go_getr rfl ⟨_, rfl, rfl, by decide, by decide⟩ ?_
      refine go_ald_2_0 rfl ?_
      refine go_getr rfl ⟨_, rfl, rfl, by decide, by decide⟩ ?_
      refine go_call3 rfl (a2) (Nat.le_of_ble_eq_true rfl) (qb_qv rfl (by decide) (by decide)) ?_
      refine go_ist_2_1 rfl rfl ?_
      refine go_ald_2_0 rfl ?_
      refine go_getr rfl ⟨_, rfl, rfl, by decide, by decide⟩ ?_
      refine go_c rfl ?_
      refine go_puti rfl ⟨_, rfl, rfl, by decide, by decide⟩ rfl rfl ?_
      refine go_ild_2_1 rfl ?_
      rw [← hv]
      refine go_ifle rfl (fun e => ?_) (fun e => ?_)
      · refine go_ild_2_1 rfl ?_
        exact fin_i rfl rfl rfl
      · exact absurd (by decide) e
    · rw [u6, hsv.i (by omega), hsv.i (by omega)]
      exact hr.2.2.1
