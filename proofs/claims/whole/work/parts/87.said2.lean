/-! said, in both: a one, of a switch -/
def sa_m (f : Nat → Int32) (nw : Nat) (lo hi se : Nat → Nat) (X J w v : Nat) (sg : Int32) (sw : Nat) : Bool := if w = 2 then X.testBit sw else if w = 16 then J.testBit sw else if w = 17 then decide (qm_ac (fun c => qs_on f c && qm_th lo hi X c sw) nw ≠ 0) else sa_q f nw lo hi se X w v sg sw
theorem sa_m_R {f g : Nat → Int32} (hR : qs_R f g) {nw : Nat} (hnw : nw ≤ 8) {lo hi se : Nat → Nat} {X J w v : Nat} {sg : Int32} {sw : Nat} (hsw : sw < 10) : sa_m f nw lo hi se X J w v sg sw = sa_m g nw lo hi se X J w v sg sw := by
  have h1 : qm_ac (fun c => qs_on f c && qm_th lo hi X c sw) nw = qm_ac (fun c => qs_on g c && qm_th lo hi X c sw) nw := qm_ac_cong (fun k hk => by rw [hR.on (by omega)])
  have h2 : f (30 + sw) = g (30 + sw) := hR.1 _ (by omega) (by omega)
  unfold sa_m sa_q sa_n
  rw [h1, h2]
theorem qm_ac_self {X n : Nat} (h : X < 2 ^ n) : qm_ac (fun j => X.testBit j) n = X := by
  apply Nat.eq_of_testBit_eq
  intro j
  rw [qm_ac_bit]
  by_cases hj : j < n
  · rw [decide_eq_true hj, Bool.true_and]
  · rw [decide_eq_false hj, Bool.false_and, Nat.testBit_lt_two_pow (Nat.lt_of_lt_of_le h (Nat.pow_le_pow_right (by decide) (by omega)))]
/-- the switches of a one, in the component -/
theorem sp_step154 (d : Nat) (t : qb_M) (c : Nat × Nat) {nw nm ns : Nat} {lo hi se : Nat → Nat} (hp : qP_pl t 67 nw nm lo hi) (hns : t.1 67 7 = nI ns) (hns5 : ns ≤ 5) (hse : ∀ k, k < ns → se k < nm ∧ t.1 72 k = nI (se k)) {X J : Nat} (hX : t.1 73 5 = nI X) (hX2 : X < 2 ^ nm) (hJ : t.1 73 6 = nI J) (hJ2 : J < 2 ^ nm) {i w v : Nat} (hi0 : i < 40) (hw : t.2.2 79 i = some w) (hv : w = 2 ∨ w = 16 ∨ w = 17 ∨ t.1 81 i = nI v ∧ (w = 18 ∧ v < ns ∨ w = 19 ∧ v < 8 ∨ (w = 20 ∨ w = 21 ∨ w = 22) ∧ v < 1000)) : qe (d + 5) 154 [.ref 78, .int (nI i), .ref 67, .ref 73, .ref 125] (qb_hp (t), 149, c) = some (some (.int (nI (qm_ac (sa_m (qs_so t 73) nw lo hi se X J w v (t.1 80 i)) nm))), (qb_hp (t), 149, c)) := by
  have hS := qS_73
  obtain ⟨p1, p2, ⟨p3, p4, p5⟩, p6⟩ := id hp
  have h10 : 2 ^ nm ≤ 2 ^ 10 := Nat.pow_le_pow_right (by decide) p5
  refine (en_154 (d + 4) 78 (nI i) 67 73 125 _).trans ?_
  refine go_ald_8_0 rfl ?_
  refine go_getr rfl ⟨_, rfl, rfl, by decide, by decide⟩ ?_
  refine go_ild_8_1 rfl ?_
  refine go_aald (j := i) rfl (⟨rfl, by decide, by decide, by decide⟩) (rfl) (by omega) ?_
  rw [hw]
  refine go_ast_8_5 rfl rfl ?_
  refine go_ald_8_5 rfl ?_
  refine go_c rfl ?_
  rcases hv with h1 | h1 | h1 | ⟨hv, h1⟩
  · subst h1
    refine go_acne (r := some 2) (q := some 2) rfl rfl rfl (fun e => ?_) (fun e => absurd rfl e)
    refine go_ald_8_3 rfl ?_
    refine go_geti rfl (qS_f hS rfl) ?_
    rw [hX, show qm_ac (sa_m (qs_so t 73) nw lo hi se X J 2 v (t.1 80 i)) nm = X from qm_ac_self hX2]
    exact fin_i rfl rfl rfl
  · subst h1
    refine go_acne (r := some 16) (q := some 2) rfl rfl rfl (fun e => absurd e (by decide)) (fun e => ?_)
    refine go_ald_8_5 rfl ?_
    refine go_c rfl ?_
    refine go_acne (r := some 16) (q := some 16) rfl rfl rfl (fun e => ?_) (fun e => absurd rfl e)
    refine go_ald_8_3 rfl ?_
    refine go_geti rfl (qS_f hS rfl) ?_
    rw [hJ, show qm_ac (sa_m (qs_so t 73) nw lo hi se X J 16 v (t.1 80 i)) nm = J from qm_ac_self hJ2]
    exact fin_i rfl rfl rfl
  · subst h1
    refine go_acne (r := some 17) (q := some 2) rfl rfl rfl (fun e => absurd e (by decide)) (fun e => ?_)
    refine go_ald_8_5 rfl ?_
    refine go_c rfl ?_
    refine go_acne (r := some 17) (q := some 16) rfl rfl rfl (fun e => absurd e (by decide)) (fun e => ?_)
    refine go_ald_8_5 rfl ?_
    refine go_c rfl ?_
    refine go_acne (r := some 17) (q := some 17) rfl rfl rfl (fun e => ?_) (fun e => absurd rfl e)
    refine go_ald_8_4 rfl ?_
    refine go_ald_8_3 rfl ?_
    refine go_call2 rfl (sp_inUse (d + 1) t c hS hp hX (by omega)) (Nat.le_of_ble_eq_true rfl) (qb_qv rfl (by decide) (by decide)) ?_
    rw [show qm_ac (sa_m (qs_so t 73) nw lo hi se X J 17 v (t.1 80 i)) nm = qk_F 0 (fun c => qm_ac (qm_th lo hi X c) nm) (qs_on (qs_so t 73)) nw from by
      apply Nat.eq_of_testBit_eq
      intro j
      rw [Bool.eq_iff_iff, qk_F_bit, qm_ac_bit, Bool.and_eq_true, decide_eq_true_iff]
      constructor
      · rintro ⟨a1, a2⟩
        have a2 : decide (qm_ac (fun c => qs_on (qs_so t 73) c && qm_th lo hi X c j) nw ≠ 0) = true := a2
        rw [decide_eq_true_iff, ne_eq, qm_ac_0] at a2
        refine Or.inr (Classical.byContradiction fun z => a2 (fun k hk hb => z ⟨k, hk, ?_, ?_⟩))
        · rw [Bool.and_eq_true] at hb
          exact hb.1
        · rw [Bool.and_eq_true] at hb
          rw [qm_ac_bit, decide_eq_true a1, hb.2]
          rfl
      · rintro (h | ⟨k, hk, k1, k2⟩)
        · rw [Nat.zero_testBit] at h
          exact absurd h (by decide)
        · rw [qm_ac_bit, Bool.and_eq_true, decide_eq_true_iff] at k2
          refine ⟨k2.1, ?_⟩
          show decide (qm_ac (fun c => qs_on (qs_so t 73) c && qm_th lo hi X c j) nw ≠ 0) = true
          rw [decide_eq_true_iff, ne_eq, qm_ac_0]
          exact fun z => z k hk (by rw [k1, k2.2]; rfl)]
    exact fin_i rfl rfl rfl
  · have hw2 : w ≠ 2 ∧ w ≠ 16 ∧ w ≠ 17 ∧ w < 23 := by omega
    have e0 : sa_m (qs_so t 73) nw lo hi se X J w v (t.1 80 i) = sa_q (qs_so t 73) nw lo hi se X w v (t.1 80 i) := funext fun sw => by
      unfold sa_m
      rw [if_neg hw2.1, if_neg hw2.2.1, if_neg hw2.2.2.1]
    rw [e0]
    have loop : ∀ n k, k + n = nm → qa_lm (qe (d + 4)) (qa_cd qc_154) (55, [.ref 78, .int (nI i), .ref 67, .ref 73, .ref 125, .ref w, .int (nI (qm_ac (sa_q (qs_so t 73) nw lo hi se X w v (t.1 80 i)) k)), .int (nI k)], [], (qb_hp (t), 149, c)) = some (some (.int (nI (qm_ac (sa_q (qs_so t 73) nw lo hi se X w v (t.1 80 i)) nm))), (qb_hp (t), 149, c)) := by
      intro n
      induction n with
      | zero =>
        intro k hk
        have hk : k = nm := by omega
        subst hk
        refine go_ild_8_7 rfl ?_
        refine go_ald_8_2 rfl ?_
        refine go_geti rfl ⟨_, rfl, rfl, by decide, by decide⟩ ?_
        rw [p2]
        refine go_icge rfl (fun e => ?_) (fun e => ?_)
        · refine go_ild_8_6 rfl ?_
          exact fin_i rfl rfl rfl
        · exact absurd (Int32.le_refl _) e
      | succ n ih =>
        intro k hk
        have ih := ih (k + 1) (by omega)
        refine go_ild_8_7 rfl ?_
        refine go_ald_8_2 rfl ?_
        refine go_geti rfl ⟨_, rfl, rfl, by decide, by decide⟩ ?_
        rw [p2]
        refine go_icge rfl (fun e => ?_) (fun e => ?_)
        · exact absurd e (nI_ge (by omega) (by omega))
        · refine go_ald_8_0 rfl ?_
          refine go_ild_8_1 rfl ?_
          refine go_ild_8_7 rfl ?_
          refine go_ald_8_2 rfl ?_
          refine go_ald_8_3 rfl ?_
          refine go_ald_8_4 rfl ?_
          refine go_call6 rfl (sp_isSo d t c hp hns hns5 hse hX (by omega) hi0 hw hv h1 k (by omega)) (Nat.le_of_ble_eq_true rfl) (qb_qv rfl (by decide) (by decide)) ?_
          refine go_ifeq rfl (fun e2 => ?_) (fun e2 => ?_)
          · rw [qx_unset (qB_0.mp e2)]
            refine go_inc_8_7 rfl rfl ?_
            refine go_goto rfl ?_
            rw [nI_1]
            exact ih
          · refine go_ild_8_6 rfl ?_
            refine go_c rfl ?_
            refine go_ild_8_7 rfl ?_
            refine go_ishl rfl ?_
            refine go_ior rfl ?_
            rw [qx_set (by omega) (Classical.byContradiction fun z => e2 (qB_f z))]
            refine go_ist_8_6 rfl rfl ?_
            refine go_inc_8_7 rfl rfl ?_
            refine go_goto rfl ?_
            rw [nI_1]
            exact ih
    have hid : qa_id (.ref w) = some (some w) := if_pos hw2.2.2.2
    refine go_acne (r := some w) (q := some 2) rfl hid rfl (fun e => absurd (Option.some.inj e) hw2.1) (fun e => ?_)
    refine go_ald_8_5 rfl ?_
    refine go_c rfl ?_
    refine go_acne (r := some w) (q := some 16) rfl hid rfl (fun e => absurd (Option.some.inj e) hw2.2.1) (fun e => ?_)
    refine go_ald_8_5 rfl ?_
    refine go_c rfl ?_
    refine go_acne (r := some w) (q := some 17) rfl hid rfl (fun e => absurd (Option.some.inj e) hw2.2.2.1) (fun e => ?_)
    refine go_c rfl ?_
    refine go_ist_8_6 rfl rfl ?_
    refine go_c rfl ?_
    refine go_ist_8_7 rfl rfl ?_
    exact loop nm 0 (by omega)
