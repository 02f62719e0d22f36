/-! said, in the reference: a one -/
theorem qB_b {p : Prop} [Decidable p] : narrow .boolean (.int (qB p)) = .int (qB p) := by unfold qB; split <;> rfl
theorem sa_pre (d : Nat) (m : qb_M) (c : Nat × Nat) (k sw : Nat) (hk : k < 60) (R : Option (Option Value × qa_H)) (hR : qa_lm (qe d) (qa_cd qc_289) (33, [.ref 192, .int (nI k), .int (nI sw), .int (nI (72 + 4 * k)), .int (m.1 194 (72 + 4 * k + 1)), .int (m.1 194 (72 + 4 * k + 2)), .retAddr 0, .retAddr 0], [.int (m.1 194 (72 + 4 * k))], (qb_hp (m), 149, c)) = R) : qe (d + 1) 289 [.ref 192, .int (nI k), .int (nI sw)] (qb_hp (m), 149, c) = R := by
  have i1 : ∀ j : Nat, nI (72 + 4 * k) + nI j = nI (72 + 4 * k + j) := fun j => nI_add _ _
  refine (en_289 d 192 (nI k) (nI sw) _).trans ?_
  refine go_c rfl ?_
  refine go_c rfl ?_
  refine go_ild_8_1 rfl ?_
  refine go_imul rfl ?_
  rw [show (4 : Int32) = nI 4 from rfl, pk_mul]
  refine go_iadd rfl ?_
  rw [show (72 : Int32) = nI 72 from rfl, nI_add]
  refine go_ist_8_3 rfl rfl ?_
  refine go_ald_8_0 rfl ?_
  refine go_getr rfl ⟨_, rfl, rfl, by decide, by decide⟩ ?_
  refine go_ild_8_3 rfl ?_
  refine go_c rfl ?_
  refine go_iadd rfl ?_
  rw [nI_1]
  refine go_iald (j := 72 + 4 * k + 1) rfl (⟨rfl, by decide, by decide, by decide⟩) (rfl) (by omega) ?_
  refine go_ist_8_4 rfl rfl ?_
  refine go_ald_8_0 rfl ?_
  refine go_getr rfl ⟨_, rfl, rfl, by decide, by decide⟩ ?_
  refine go_ild_8_3 rfl ?_
  refine go_c rfl ?_
  refine go_iadd rfl ?_
  rw [show (2 : Int32) = nI 2 from rfl, i1]
  refine go_iald (j := 72 + 4 * k + 2) rfl (⟨rfl, by decide, by decide, by decide⟩) (rfl) (by omega) ?_
  refine go_ist_8_5 rfl rfl ?_
  refine go_ald_8_0 rfl ?_
  refine go_getr rfl ⟨_, rfl, rfl, by decide, by decide⟩ ?_
  refine go_ild_8_3 rfl ?_
  refine go_iald (j := 72 + 4 * k) rfl (⟨rfl, by decide, by decide, by decide⟩) (rfl) (by omega) ?_
  exact hR
theorem sa_sign (d : Nat) (m : qb_M) (c : Nat × Nat) (k sw v : Nat) (hk : k < 60) (a sg : Int32) (hsg : m.1 194 (72 + 4 * k + 3) = sg) (l4 l6 : Value) : qa_lm (qe (d)) (qa_cd qc_289) (293, [.ref 192, .int (nI k), .int (nI sw), .int (nI (72 + 4 * k)), l4, .int (nI v), l6, .int a], [], (qb_hp (m), 149, c)) = some (some (.int (qB (sa_ag sg a (nI v) = true))), (qb_hp (m), 149, c)) := by
  have i1 : ∀ j : Nat, nI (72 + 4 * k) + nI j = nI (72 + 4 * k + j) := fun j => nI_add _ _
  unfold sa_ag
  refine go_ald_8_0 rfl ?_
  refine go_getr rfl ⟨_, rfl, rfl, by decide, by decide⟩ ?_
  refine go_ild_8_3 rfl ?_
  refine go_c rfl ?_
  refine go_iadd rfl ?_
  rw [show (3 : Int32) = nI 3 from rfl, i1]
  refine go_iald (j := 72 + 4 * k + 3) rfl (⟨rfl, by decide, by decide, by decide⟩) (rfl) (by omega) ?_
  rw [hsg]
  refine go_c rfl ?_
  refine go_icne rfl (fun e => ?_) (fun e => ?_)
  · rw [if_pos e]
    simp only [decide_eq_true_iff]
    refine go_ild_8_7 rfl ?_
    refine go_ild_8_5 rfl ?_
    refine go_icge rfl (fun e2 => ?_) (fun e2 => ?_)
    · rw [qB_f (Int32.not_lt.mpr e2)]
      refine go_c rfl ?_
      refine go_goto rfl ?_
      exact fin_i rfl rfl rfl
    · rw [qB_t (Int32.not_le.mp e2)]
      refine go_c rfl ?_
      refine go_goto rfl ?_
      exact fin_i rfl rfl rfl
  · rw [if_neg e]
    refine go_ald_8_0 rfl ?_
    refine go_getr rfl ⟨_, rfl, rfl, by decide, by decide⟩ ?_
    refine go_ild_8_3 rfl ?_
    refine go_c rfl ?_
    refine go_iadd rfl ?_
    rw [show (3 : Int32) = nI 3 from rfl, i1]
    refine go_iald (j := 72 + 4 * k + 3) rfl (⟨rfl, by decide, by decide, by decide⟩) (rfl) (by omega) ?_
    rw [hsg]
    refine go_c rfl ?_
    refine go_icne rfl (fun e2 => ?_) (fun e2 => ?_)
    · rw [if_pos e2]
      simp only [decide_eq_true_iff]
      refine go_ild_8_7 rfl ?_
      refine go_ild_8_5 rfl ?_
      refine go_icne rfl (fun e3 => ?_) (fun e3 => ?_)
      · rw [qB_t e3]
        refine go_c rfl ?_
        refine go_goto rfl ?_
        exact fin_i rfl rfl rfl
      · rw [qB_f e3]
        refine go_c rfl ?_
        refine go_goto rfl ?_
        exact fin_i rfl rfl rfl
    · rw [if_neg e2]
      simp only [decide_eq_true_iff]
      refine go_ild_8_7 rfl ?_
      refine go_ild_8_5 rfl ?_
      refine go_icle rfl (fun e3 => ?_) (fun e3 => ?_)
      · rw [qB_f (Int32.not_lt.mpr e3)]
        refine go_c rfl ?_
        exact fin_i rfl rfl rfl
      · rw [qB_t (Int32.not_le.mp e3)]
        refine go_c rfl ?_
        refine go_goto rfl ?_
        exact fin_i rfl rfl rfl
theorem sp_holdsL (d : Nat) (m : qb_M) (c : Nat × Nat) {nw nm ns : Nat} {lo hi se : Nat → Nat} (hp : qm_pl m nw nm lo hi) (hns5 : ns ≤ 5) (hse : ∀ k, k < ns → se k < nm ∧ m.1 194 (25 + k) = nI (se k)) {X J : Nat} (hX : m.1 194 31 = nI X) (hX2 : X < 2 ^ nm) (hJ : m.1 194 32 = nI J) (hJ2 : J < 2 ^ nm) {k w v : Nat} {sg : Int32} (hk : k < 60) (hw : (w = 2 ∧ m.1 194 (72 + 4 * k) = 65 ∨ w = 16 ∧ m.1 194 (72 + 4 * k) = 66 ∨ w = 17 ∧ m.1 194 (72 + 4 * k) = 67) ∨ (w = 18 ∧ v < ns ∧ m.1 194 (72 + 4 * k) = 68 ∧ m.1 194 (72 + 4 * k + 1) = nI v) ∨ (w = 19 ∧ v < 8 ∧ m.1 194 (72 + 4 * k) = 69 ∧ m.1 194 (72 + 4 * k + 1) = nI v) ∨ ((w = 20 ∨ w = 21 ∨ w = 22) ∧ v < 1000 ∧ m.1 194 (72 + 4 * k) = nI (50 + w) ∧ m.1 194 (72 + 4 * k + 2) = nI v ∧ m.1 194 (72 + 4 * k + 3) = sg)) (sw : Nat) (hsw : sw < nm) : qe (d + 6) 289 [.ref 192, .int (nI k), .int (nI sw)] (qb_hp (m), 149, c) = some (some (.int (qB (sa_m (qm_so m) nw lo hi se X J w v sg sw = true))), (qb_hp (m), 149, c)) := by
  obtain ⟨p1, p2, ⟨p3, p4, p5⟩, p6⟩ := id hp
  have h10 : 2 ^ nm ≤ 2 ^ 10 := Nat.pow_le_pow_right (by decide) p5
  have hcb := sp_callsBy d m c hp X hX (by omega) sw hsw
  have hac : qm_ac (fun c => qs_on (qm_so m) c && qm_th lo hi X c sw) nw < 256 := Nat.lt_of_lt_of_le (qm_ac_lt _ nw) (Nat.pow_le_pow_right (n := 2) (by decide) p4)
  refine sa_pre (d + 5) m c k sw hk _ ?_
  rcases hw with (⟨h1, h2⟩ | ⟨h1, h2⟩ | ⟨h1, h2⟩) | ⟨h1, hv, h2, h3⟩ | ⟨h1, hv, h2, h3⟩ | ⟨h1, hv, h2, h3, h4⟩
  · subst h1
    rw [h2, show sa_m (qm_so m) nw lo hi se X J 2 v sg sw = X.testBit sw from if_pos rfl]
    refine go_sw2 (n := 176) rfl (by decide +kernel) ?_
    refine go_ald_8_0 rfl ?_
    refine go_getr rfl ⟨_, rfl, rfl, by decide, by decide⟩ ?_
    refine go_c rfl ?_
    refine go_iald (j := 31) rfl (⟨rfl, by decide, by decide, by decide⟩) (rfl) (by omega) ?_
    rw [hX]
    refine go_ild_8_2 rfl ?_
    refine go_call2 rfl (sp_has (d + 4) X sw (by omega) (by omega) _) (Nat.le_of_ble_eq_true rfl) rfl ?_
    exact fin_i rfl qB_b rfl
  · subst h1
    rw [h2, show sa_m (qm_so m) nw lo hi se X J 16 v sg sw = J.testBit sw from rfl]
    refine go_sw2 (n := 188) rfl (by decide +kernel) ?_
    refine go_ald_8_0 rfl ?_
    refine go_getr rfl ⟨_, rfl, rfl, by decide, by decide⟩ ?_
    refine go_c rfl ?_
    refine go_iald (j := 32) rfl (⟨rfl, by decide, by decide, by decide⟩) (rfl) (by omega) ?_
    rw [hJ]
    refine go_ild_8_2 rfl ?_
    refine go_call2 rfl (sp_has (d + 4) J sw (by omega) (by omega) _) (Nat.le_of_ble_eq_true rfl) rfl ?_
    exact fin_i rfl qB_b rfl
  · subst h1
    rw [h2, show sa_m (qm_so m) nw lo hi se X J 17 v sg sw = decide (qm_ac (fun c => qs_on (qm_so m) c && qm_th lo hi X c sw) nw ≠ 0) from rfl]
    simp only [decide_eq_true_iff]
    refine go_sw2 (n := 200) rfl (by decide +kernel) ?_
    refine go_ald_8_0 rfl ?_
    refine go_ild_8_2 rfl ?_
    refine go_call2 rfl (hcb) (Nat.le_of_ble_eq_true rfl) (qb_qv rfl (by decide) (by decide)) ?_
    refine go_ifeq rfl (fun e => ?_) (fun e => ?_)
    · rw [qB_f (fun z => z ((nI_eq (b := 0) (by omega) (by decide)).mp e))]
      refine go_c rfl ?_
      exact fin_i rfl rfl rfl
    · have z1 : qm_ac (fun c => qs_on (qm_so m) c && qm_th lo hi X c sw) nw ≠ 0 := fun z => e (by rw [z]; rfl)
      rw [qB_t z1]
      refine go_c rfl ?_
      refine go_goto rfl ?_
      exact fin_i rfl rfl rfl
  · subst h1
    have hs := hse v hv
    rw [h2, h3, show sa_m (qm_so m) nw lo hi se X J 18 v sg sw = decide (se v = sw) from rfl]
    simp only [decide_eq_true_iff]
    refine go_sw2 (n := 214) rfl (by decide +kernel) ?_
    refine go_ald_8_0 rfl ?_
    refine go_getr rfl ⟨_, rfl, rfl, by decide, by decide⟩ ?_
    refine go_c rfl ?_
    refine go_ild_8_4 rfl ?_
    refine go_iadd rfl ?_
    rw [show (25 : Int32) = nI 25 from rfl, nI_add]
    refine go_iald (j := 25 + v) rfl (⟨rfl, by decide, by decide, by decide⟩) (rfl) (by omega) ?_
    rw [hs.2]
    refine go_ild_8_2 rfl ?_
    refine go_icne rfl (fun e => ?_) (fun e => ?_)
    · rw [qB_t ((nI_eq (by omega) (by omega)).mp e)]
      refine go_c rfl ?_
      refine go_goto rfl ?_
      exact fin_i rfl rfl rfl
    · rw [qB_f (fun z => e (by rw [z]))]
      refine go_c rfl ?_
      exact fin_i rfl rfl rfl
  · subst h1
    rw [h2, h3, show sa_m (qm_so m) nw lo hi se X J 19 v sg sw = decide (lo sw = v ∨ hi sw = v) from rfl]
    simp only [decide_eq_true_iff]
    refine go_sw2 (n := 234) rfl (by decide +kernel) ?_
    refine go_ald_8_0 rfl ?_
    refine go_ild_8_2 rfl ?_
    refine go_ild_8_4 rfl ?_
    refine go_call3 rfl (sp_touches (d + 4) m c hp sw v hsw hv) (Nat.le_of_ble_eq_true rfl) (qb_qv rfl (by decide) (by decide)) ?_
    rw [show qB (v = lo sw ∨ v = hi sw) = qB (lo sw = v ∨ hi sw = v) from by
      by_cases z : v = lo sw ∨ v = hi sw
      · rw [qB_t z, qB_t (z.elim (fun q => Or.inl q.symm) (fun q => Or.inr q.symm))]
      · rw [qB_f z, qB_f (fun q => z (q.elim (fun q => Or.inl q.symm) (fun q => Or.inr q.symm)))]]
    exact fin_i rfl qB_b rfl
  · have e0 : sa_m (qm_so m) nw lo hi se X J w v sg sw = sa_ag sg (sa_n (qm_so m) nw lo hi X w sw) (nI v) := by
      unfold sa_m sa_q
      rw [if_neg (by omega), if_neg (by omega), if_neg (by omega), if_neg (by omega), if_neg (by omega)]
    rw [h2, h3, e0]
    have pre : ∀ R, (∀ l7 : Value, qa_lm (qe (d + 5)) (qa_cd qc_289) (253, [.ref 192, .int (nI k), .int (nI sw), .int (nI (72 + 4 * k)), .int (m.1 194 (72 + 4 * k + 1)), .int (nI v), .int (nI w), l7], [], (qb_hp (m), 149, c)) = R) → qa_lm (qe (d + 5)) (qa_cd qc_289) (33, [.ref 192, .int (nI k), .int (nI sw), .int (nI (72 + 4 * k)), .int (m.1 194 (72 + 4 * k + 1)), .int (nI v), .retAddr 0, .retAddr 0], [.int (nI (50 + w))], (qb_hp (m), 149, c)) = R := fun R hR => by
      have hgo : qa_lm (qe (d + 5)) (qa_cd qc_289) (242, [.ref 192, .int (nI k), .int (nI sw), .int (nI (72 + 4 * k)), .int (m.1 194 (72 + 4 * k + 1)), .int (nI v), .retAddr 0, .retAddr 0], [], (qb_hp (m), 149, c)) = R := by
        refine go_ald_8_0 rfl ?_
        refine go_getr rfl ⟨_, rfl, rfl, by decide, by decide⟩ ?_
        refine go_ild_8_3 rfl ?_
        refine go_iald (j := 72 + 4 * k) rfl (⟨rfl, by decide, by decide, by decide⟩) (rfl) (by omega) ?_
        rw [h2]
        refine go_c rfl ?_
        refine go_isub rfl ?_
        rw [show (50 : Int32) = nI 50 from rfl, nI_dif]
        refine go_ist_8_6 rfl rfl ?_
        exact hR _
      rcases h1 with h1 | h1 | h1 <;> subst h1
      · refine go_sw2 (n := 242) rfl (by decide +kernel) ?_
        exact hgo
      · refine go_sw2 (n := 242) rfl (by decide +kernel) ?_
        exact hgo
      · refine go_sw2 (n := 242) rfl (by decide +kernel) ?_
        exact hgo
    refine pre _ (fun l7 => ?_)
    unfold sa_n
    rcases h1 with h1 | h1 | h1 <;> subst h1
    · rw [if_pos rfl]
      refine go_ild_8_6 rfl ?_
      refine go_c rfl ?_
      refine go_icne rfl (fun e => ?_) (fun e => ?_)
      · refine go_ald_8_0 rfl ?_
        refine go_ild_8_2 rfl ?_
        refine go_call2 rfl (hcb) (Nat.le_of_ble_eq_true rfl) (qb_qv rfl (by decide) (by decide)) ?_
        refine go_call1 rfl (sp_bits (d + 4) m c _ hac) (Nat.le_of_ble_eq_true rfl) rfl ?_
        refine go_goto rfl ?_
        refine go_ist_8_7 rfl rfl ?_
        exact sa_sign (d + 5) m c k sw v hk _ sg h4 _ _
      · exact absurd rfl e
    · rw [if_neg (by decide), if_pos rfl]
      refine go_ild_8_6 rfl ?_
      refine go_c rfl ?_
      refine go_icne rfl (fun e => ?_) (fun e => ?_)
      · exact absurd e (by decide)
      · refine go_ild_8_6 rfl ?_
        refine go_c rfl ?_
        refine go_icne rfl (fun e2 => ?_) (fun e2 => ?_)
        · refine go_ald_8_0 rfl ?_
          refine go_getr rfl ⟨_, rfl, rfl, by decide, by decide⟩ ?_
          refine go_c rfl ?_
          refine go_ild_8_2 rfl ?_
          refine go_iadd rfl ?_
          rw [show (60 : Int32) = nI 60 from rfl, nI_add]
          refine go_iald (j := 60 + sw) rfl (⟨rfl, by decide, by decide, by decide⟩) (rfl) (by omega) ?_
          refine go_goto rfl ?_
          refine go_ist_8_7 rfl rfl ?_
          rw [show m.1 194 (60 + sw) = qm_so m (30 + sw) from by unfold qm_so; rw [show 30 + (30 + sw) = 60 + sw by omega]]
          exact sa_sign (d + 5) m c k sw v hk _ sg h4 _ _
        · exact absurd rfl e2
    · rw [if_neg (by decide), if_neg (by decide)]
      refine go_ild_8_6 rfl ?_
      refine go_c rfl ?_
      refine go_icne rfl (fun e => ?_) (fun e => ?_)
      · exact absurd e (by decide)
      · refine go_ild_8_6 rfl ?_
        refine go_c rfl ?_
        refine go_icne rfl (fun e2 => ?_) (fun e2 => ?_)
        · exact absurd e2 (by decide)
        · refine go_ild_8_2 rfl ?_
          refine go_ist_8_7 rfl rfl ?_
          exact sa_sign (d + 5) m c k sw v hk _ sg h4 _ _
