/-! said, in both: a sentence -/
theorem sa_not (p : Nat → Bool) {nm : Nat} (hn : nm ≤ 31) : nI (2 ^ nm - 1) &&& (nI (qm_ac p nm) ^^^ (-1)) = nI (qm_ac (fun j => !p j) nm) := by
  rw [show (-1 : Int32) = nI (2 ^ 32 - 1) from rfl, fb_xorI, fa_and]
  congr 1
  apply Nat.eq_of_testBit_eq
  intro j
  rw [Nat.testBit_and, Nat.testBit_xor, Nat.testBit_two_pow_sub_one, Nat.testBit_two_pow_sub_one, qm_ac_bit, qm_ac_bit]
  by_cases hj : j < nm
  · rw [decide_eq_true hj, decide_eq_true (show j < 32 by omega)]
    cases p j <;> rfl
  · rw [decide_eq_false hj]
    rfl
theorem sa_and (p q : Nat → Bool) {nm : Nat} : nI (qm_ac p nm) &&& nI (qm_ac q nm) = nI (qm_ac (fun j => p j && q j) nm) := by
  rw [fa_and]
  congr 1
  apply Nat.eq_of_testBit_eq
  intro j
  rw [Nat.testBit_and, qm_ac_bit, qm_ac_bit, qm_ac_bit]
  cases decide (j < nm) <;> cases p j <;> cases q j <;> rfl
theorem sa_or (p q : Nat → Bool) {nm : Nat} : nI (qm_ac p nm) ||| nI (qm_ac q nm) = nI (qm_ac (fun j => p j || q j) nm) := by
  rw [fa_or]
  congr 1
  apply Nat.eq_of_testBit_eq
  intro j
  rw [Nat.testBit_or, qm_ac_bit, qm_ac_bit, qm_ac_bit]
  cases decide (j < nm) <;> cases p j <;> cases q j <;> rfl
/-- what both have, for said -/
def sa_S (s : qb_M) (nw nm ns : Nat) (lo hi se : Nat → Nat) (X J L : Nat) : Prop := qP_pl s 67 nw nm lo hi ∧ qm_pl s nw nm lo hi ∧ (s.1 67 7 = nI ns ∧ ns ≤ 5) ∧ (∀ k, k < ns → se k < nm ∧ s.1 72 k = nI (se k) ∧ s.1 194 (25 + k) = nI (se k)) ∧ (s.1 73 5 = nI X ∧ s.1 194 31 = nI X ∧ X < 2 ^ nm) ∧ (s.1 73 6 = nI J ∧ s.1 194 32 = nI J ∧ J < 2 ^ nm) ∧ qs_R (qs_so s 73) (qm_so s) ∧ s.1 78 4 = nI L ∧ L ≤ 40
theorem sa_ev (d e : Nat) (c : Nat × Nat) {s : qb_M} {nw nm ns : Nat} {lo hi se : Nat → Nat} {X J L : Nat} (hS : sa_S s nw nm ns lo hi se X J L) : ∀ D i j k, j ≤ L → qE s 78 194 0 ns D i j k → ∃ p : Nat → Bool, (∀ sw, sw < nm → ∀ m : qb_M, m.1 194 = s.1 194 → qe (e + 5 + D) 289 [.ref 192, .int (nI k), .int (nI sw)] (qb_hp (m), 149, c) = some (some (.int (qB (p sw = true))), (qb_hp (m), 149, c))) ∧ (∀ h t, h ≤ i → qG (fun x k => x = 82) s t → ∃ t', (∀ R, (∀ l7 : Value, qa_lm (qe (d + 5)) (qa_cd qc_153) (16, [.ref 78, .ref 67, .ref 73, .ref 125, .int (nI (2 ^ nm - 1)), .int (nI (h + 1)), .int (nI j), l7], [], (qb_hp (t'), 149, c)) = R) → ∀ l7 : Value, qa_lm (qe (d + 5)) (qa_cd qc_153) (16, [.ref 78, .ref 67, .ref 73, .ref 125, .int (nI (2 ^ nm - 1)), .int (nI h), .int (nI i), l7], [], (qb_hp (t), 149, c)) = R) ∧ t'.1 82 h = nI (qm_ac p nm) ∧ qG (fun x k => x = 82 ∧ h ≤ k) t t') := by
  obtain ⟨hp, hpm, ⟨hns, hns5⟩, hse, ⟨hX, hXm, hX2⟩, ⟨hJ, hJm, hJ2⟩, hR, hL, hL4⟩ := hS
  have p5 := hp.2.2.1.2.2
  have hnw8 := hp.2.2.1.2.1
  -- the component at step i
  have enS : ∀ (t : qb_M) (h i w : Nat) R, qG (fun x k => x = 82) s t → i < L → s.2.2 79 i = some w → qa_lm (qe (d + 5)) (qa_cd qc_153) (41, [.ref 78, .ref 67, .ref 73, .ref 125, .int (nI (2 ^ nm - 1)), .int (nI h), .int (nI i), .ref w], [], (qb_hp (t), 149, c)) = R → ∀ l7 : Value, qa_lm (qe (d + 5)) (qa_cd qc_153) (16, [.ref 78, .ref 67, .ref 73, .ref 125, .int (nI (2 ^ nm - 1)), .int (nI h), .int (nI i), l7], [], (qb_hp (t), 149, c)) = R := fun t h i w R ht hi hw hR l7 => by
    refine go_ild_8_6 rfl ?_
    refine go_ald_8_0 rfl ?_
    refine go_geti rfl ⟨_, rfl, rfl, by decide, by decide⟩ ?_
    rw [show t.1 78 4 = nI L from (ht.i (by omega)).trans hL]
    refine go_icge rfl (fun e1 => ?_) (fun e1 => ?_)
    · exact absurd e1 (nI_ge hi (by omega))
    · refine go_ild_8_6 rfl ?_
      refine go_c rfl ?_
      refine go_icge rfl (fun e2 => ?_) (fun e2 => ?_)
      · exact absurd e2 (nI_ge (b := 40) (by omega) (by decide))
      · refine go_ald_8_0 rfl ?_
        refine go_getr rfl ⟨_, rfl, rfl, by decide, by decide⟩ ?_
        refine go_ild_8_6 rfl ?_
        refine go_aald (j := i) rfl (⟨rfl, by decide, by decide, by decide⟩) (rfl) (by omega) ?_
        rw [show t.2.2 79 i = some w from (ht.p (by omega)).trans hw]
        refine go_ast_8_7 rfl rfl ?_
        exact hR
  have soT : ∀ t : qb_M, qG (fun x k => x = 82) s t → qs_so t 73 = qs_so s 73 := fun t ht => qs_so_G ht (fun x k hx => by omega)
  have lt : ∀ n i j k, qE s 78 194 0 ns n i j k → i < j := fun n i j k h => by
    cases n with
    | zero => exact absurd h id
    | succ n => exact h.2.1
  intro D
  induction D with
  | zero => intro i j k _ h; exact absurd h id
  | succ n ih =>
    intro i j k hj hE
    obtain ⟨hk, hij, hj4, hE⟩ := hE
    rw [Nat.zero_add] at hE
    rcases hE with ⟨hj1, hlf⟩ | ⟨x, g1, g2, g3, g4⟩ | ⟨x, y, m1, g1, g2, g3, g4, g5⟩
    · subst hj1
      have hlf2 : ∃ w v, s.2.2 79 i = some w ∧ w < 23 ∧ w ≠ 13 ∧ w ≠ 14 ∧ w ≠ 15 ∧ (w = 2 ∨ w = 16 ∨ w = 17 ∨ s.1 81 i = nI v ∧ (w = 18 ∧ v < ns ∨ w = 19 ∧ v < 8 ∨ (w = 20 ∨ w = 21 ∨ w = 22) ∧ v < 1000)) ∧ ((w = 2 ∧ s.1 194 (72 + 4 * k) = 65 ∨ w = 16 ∧ s.1 194 (72 + 4 * k) = 66 ∨ w = 17 ∧ s.1 194 (72 + 4 * k) = 67) ∨ (w = 18 ∧ v < ns ∧ s.1 194 (72 + 4 * k) = 68 ∧ s.1 194 (72 + 4 * k + 1) = nI v) ∨ (w = 19 ∧ v < 8 ∧ s.1 194 (72 + 4 * k) = 69 ∧ s.1 194 (72 + 4 * k + 1) = nI v) ∨ ((w = 20 ∨ w = 21 ∨ w = 22) ∧ v < 1000 ∧ s.1 194 (72 + 4 * k) = nI (50 + w) ∧ s.1 194 (72 + 4 * k + 2) = nI v ∧ s.1 194 (72 + 4 * k + 3) = s.1 80 i)) := by
        unfold qE_lf at hlf
        rw [Nat.zero_add] at hlf
        rcases hlf with ⟨w, h1, h2⟩ | ⟨v, h1, h2, h3, h4, h5⟩ | ⟨v, h1, h2, h3, h4, h5⟩ | ⟨w, v, h0, h1, h2, h3, h4, h5, h6, h7⟩
        · exact ⟨w, 0, h2, by omega, by omega, by omega, by omega, by omega, Or.inl h1⟩
        · exact ⟨18, v, h1, by decide, by decide, by decide, by decide, Or.inr (Or.inr (Or.inr ⟨h4, Or.inl ⟨rfl, h3⟩⟩)), Or.inr (Or.inl ⟨rfl, h3, h2, h5⟩)⟩
        · exact ⟨19, v, h1, by decide, by decide, by decide, by decide, Or.inr (Or.inr (Or.inr ⟨h4, Or.inr (Or.inl ⟨rfl, h3⟩)⟩)), Or.inr (Or.inr (Or.inl ⟨rfl, h3, h2, h5⟩))⟩
        · exact ⟨w, v, h1, by omega, by omega, by omega, by omega, Or.inr (Or.inr (Or.inr ⟨h4, Or.inr (Or.inr ⟨h0, h3⟩)⟩)), Or.inr (Or.inr (Or.inr ⟨h0, h3, h2, h5, h6.symm⟩))⟩
      obtain ⟨w, v, hw, hw23, w13, w14, w15, hcv, hmv⟩ := hlf2
      refine ⟨sa_m (qm_so s) nw lo hi se X J w v (s.1 80 i), fun sw hsw m hm => ?_, fun h t hh ht => ?_⟩
      · have hso : qm_so m = qm_so s := by unfold qm_so; rw [hm]
        have hpl : qm_pl m nw nm lo hi := by unfold qm_pl at hpm ⊢; rw [hm]; exact hpm
        have := sp_holdsL (e + n) m c hpl hns5 (fun k hk => ⟨(hse k hk).1, by rw [hm]; exact (hse k hk).2.2⟩) (by rw [hm]; exact hXm) hX2 (by rw [hm]; exact hJm) hJ2 hk (w := w) (v := v) (sg := s.1 80 i) (by rw [hm]; exact hmv) sw hsw
        rw [hso] at this
        rw [show e + 5 + (n + 1) = e + n + 6 by omega]
        exact this
      · have h154 := sp_step154 d t c (nw := nw) (nm := nm) (ns := ns) (lo := lo) (hi := hi) (se := se) (hp.mv (P := fun x => x = 82) ht.F (by omega) (by omega) (by omega)) ((ht.i (by omega)).trans hns) hns5 (fun k hk => ⟨(hse k hk).1, (ht.i (by omega)).trans (hse k hk).2.1⟩) ((ht.i (by omega)).trans hX) hX2 ((ht.i (by omega)).trans hJ) hJ2 (i := i) (w := w) (v := v) (by omega) ((ht.p (by omega)).trans hw) (by rw [ht.i (x := 81) (by omega)]; exact hcv)
        rw [soT t ht, ht.i (x := 80) (by omega), show qm_ac (sa_m (qs_so s 73) nw lo hi se X J w v (s.1 80 i)) nm = qm_ac (sa_m (qm_so s) nw lo hi se X J w v (s.1 80 i)) nm from qm_ac_cong (fun sw hsw => sa_m_R hR hnw8 (by omega))] at h154
        refine ⟨qb_ui t 82 h (nI (qm_ac (sa_m (qm_so s) nw lo hi se X J w v (s.1 80 i)) nm)), fun R hR7 l7 => enS t h i w R ht (by omega) hw ?_ l7, qb_ui_1s, qG.rf.ui ⟨rfl, Nat.le_refl h⟩⟩
        have hid : qa_id (.ref w) = some (some w) := if_pos hw23
        refine go_ald_8_7 rfl ?_
        refine go_c rfl ?_
        refine go_acne (r := some w) (q := some 15) rfl hid rfl (fun e => absurd (Option.some.inj e) w15) (fun e => ?_)
        refine go_ald_8_7 rfl ?_
        refine go_c rfl ?_
        refine go_acne (r := some w) (q := some 14) rfl hid rfl (fun e => absurd (Option.some.inj e) w14) (fun e => ?_)
        refine go_ald_8_7 rfl ?_
        refine go_c rfl ?_
        refine go_acne (r := some w) (q := some 13) rfl hid rfl (fun e => absurd (Option.some.inj e) w13) (fun e => ?_)
        refine go_ald_8_0 rfl ?_
        refine go_getr rfl ⟨_, rfl, rfl, by decide, by decide⟩ ?_
        refine go_ild_8_5 rfl ?_
        refine go_ald_8_0 rfl ?_
        refine go_ild_8_6 rfl ?_
        refine go_ald_8_1 rfl ?_
        refine go_ald_8_2 rfl ?_
        refine go_ald_8_3 rfl ?_
        refine go_call5 rfl (h154) (Nat.le_of_ble_eq_true rfl) (qb_qv rfl (by decide) (by decide)) ?_
        refine go_iast (j := h) rfl (⟨rfl, by decide, by decide, by decide⟩) (rfl) (by omega) ?_
        refine go_inc_8_5 rfl rfl ?_
        refine go_inc_8_6 rfl rfl ?_
        refine go_goto rfl ?_
        rw [nI_1, nI_1]
        exact hR7 _
    · have hlt := lt n i (j - 1) x g4
      obtain ⟨p, q1, q2⟩ := ih i (j - 1) x (by omega) g4
      refine ⟨fun sw => !p sw, fun sw hsw m hm => ?_, fun h t hh ht => ?_⟩
      · refine sa_pre (e + 5 + n) m c k sw hk _ ?_
        rw [show m.1 194 (72 + 4 * k) = 1 from by rw [hm]; exact g1, show m.1 194 (72 + 4 * k + 1) = nI x from by rw [hm]; exact g2]
        refine go_sw2 (n := 108) rfl (by decide +kernel) ?_
        refine go_ald_8_0 rfl ?_
        refine go_ild_8_4 rfl ?_
        refine go_ild_8_2 rfl ?_
        refine go_call3 rfl (q1 sw hsw m hm) (Nat.le_of_ble_eq_true rfl) (qb_qv rfl (by decide) (by decide)) ?_
        refine go_ifne rfl (fun e1 => ?_) (fun e1 => ?_)
        · have z : (!p sw) = true := by
            have := qB_0.mp e1
            cases hps : p sw with
            | true => exact absurd hps this
            | false => rfl
          rw [qB_t z]
          refine go_c rfl ?_
          refine go_goto rfl ?_
          exact fin_i rfl rfl rfl
        · have z : ¬ (!p sw) = true := fun z => e1 (qB_f (fun w => by rw [w] at z; exact absurd z (by decide)))
          rw [qB_f z]
          refine go_c rfl ?_
          exact fin_i rfl rfl rfl
      · obtain ⟨t1, r1, r2, r3⟩ := q2 h t hh ht
        have ht1 : qG (fun x k => x = 82) s t1 := ht.tr (r3.mo (fun x k h => h.1))
        refine ⟨qb_ui t1 82 h (nI (qm_ac (fun j => !p j) nm)), fun R hR7 l7 => r1 R (fun l7 => enS t1 (h + 1) (j - 1) 15 R ht1 (by omega) g3 ?_ l7) l7, qb_ui_1s, r3.ui ⟨rfl, Nat.le_refl h⟩⟩
        refine go_ald_8_7 rfl ?_
        refine go_c rfl ?_
        refine go_acne (r := some 15) (q := some 15) rfl rfl rfl (fun e => ?_) (fun e => absurd rfl e)
        refine go_ild_8_5 rfl ?_
        refine go_c rfl ?_
        refine go_iclt rfl (fun e1 => ?_) (fun e1 => ?_)
        · exact absurd e1 (by rw [show (1 : Int32) = nI 1 from rfl]; exact fun z => absurd ((nI_ltI (by omega) (by omega)).mp z) (by omega))
        · refine go_ald_8_0 rfl ?_
          refine go_getr rfl ⟨_, rfl, rfl, by decide, by decide⟩ ?_
          refine go_ild_8_5 rfl ?_
          refine go_c rfl ?_
          refine go_isub rfl ?_
          rw [nI_p1]
          refine go_ild_8_4 rfl ?_
          refine go_ald_8_0 rfl ?_
          refine go_getr rfl ⟨_, rfl, rfl, by decide, by decide⟩ ?_
          refine go_ild_8_5 rfl ?_
          refine go_c rfl ?_
          refine go_isub rfl ?_
          rw [nI_p1]
          refine go_iald (j := h) rfl (⟨rfl, by decide, by decide, by decide⟩) (rfl) (by omega) ?_
          rw [r2]
          refine go_c rfl ?_
          refine go_ixor rfl ?_
          refine go_iand rfl ?_
          rw [sa_not p (by omega)]
          refine go_iast (j := h) rfl (⟨rfl, by decide, by decide, by decide⟩) (rfl) (by omega) ?_
          refine go_goto rfl ?_
          refine go_inc_8_6 rfl rfl ?_
          refine go_goto rfl ?_
          rw [nI_1, show j - 1 + 1 = j by omega]
          exact hR7 _
    · have hlt1 := lt n i m1 x g4
      have hlt2 := lt n m1 (j - 1) y g5
      obtain ⟨p, q1, q2⟩ := ih i m1 x (by omega) g4
      obtain ⟨q, q3, q4⟩ := ih m1 (j - 1) y (by omega) g5
      have hm1 : ∀ z, nI (z + 1) + (-1) = nI z := fun z => by rw [← Int32.sub_eq_add_neg, nI_p1]
      have two : ∀ h t, h ≤ i → qG (fun x k => x = 82) s t → ∃ t2 : qb_M, (∀ R, (∀ l7 : Value, qa_lm (qe (d + 5)) (qa_cd qc_153) (16, [.ref 78, .ref 67, .ref 73, .ref 125, .int (nI (2 ^ nm - 1)), .int (nI (h + 1 + 1)), .int (nI (j - 1)), l7], [], (qb_hp (t2), 149, c)) = R) → ∀ l7 : Value, qa_lm (qe (d + 5)) (qa_cd qc_153) (16, [.ref 78, .ref 67, .ref 73, .ref 125, .int (nI (2 ^ nm - 1)), .int (nI h), .int (nI i), l7], [], (qb_hp (t), 149, c)) = R) ∧ t2.1 82 h = nI (qm_ac p nm) ∧ t2.1 82 (h + 1) = nI (qm_ac q nm) ∧ qG (fun x k => x = 82 ∧ h ≤ k) t t2 := fun h t hh ht => by
        obtain ⟨t1, r1, r2, r3⟩ := q2 h t hh ht
        have ht1 : qG (fun x k => x = 82) s t1 := ht.tr (r3.mo (fun x k h => h.1))
        obtain ⟨t2, v1, v2, v3⟩ := q4 (h + 1) t1 (by omega) ht1
        exact ⟨t2, fun R hR l7 => r1 R (fun l7 => v1 R hR l7) l7, (v3.i (by omega)).trans r2, v2, r3.tr (v3.mo (fun x k h => by omega))⟩
      rcases g1 with ⟨g1, g6⟩ | ⟨g1, g6⟩
      · refine ⟨fun sw => p sw && q sw, fun sw hsw m hm => ?_, fun h t hh ht => ?_⟩
        · refine sa_pre (e + 5 + n) m c k sw hk _ ?_
          rw [show m.1 194 (72 + 4 * k) = 2 from by rw [hm]; exact g1, show m.1 194 (72 + 4 * k + 1) = nI x from by rw [hm]; exact g2, show m.1 194 (72 + 4 * k + 2) = nI y from by rw [hm]; exact g3]
          refine go_sw2 (n := 124) rfl (by decide +kernel) ?_
          refine go_ald_8_0 rfl ?_
          refine go_ild_8_4 rfl ?_
          refine go_ild_8_2 rfl ?_
          refine go_call3 rfl (q1 sw hsw m hm) (Nat.le_of_ble_eq_true rfl) (qb_qv rfl (by decide) (by decide)) ?_
          refine go_ifeq rfl (fun e1 => ?_) (fun e1 => ?_)
          · have z : ¬ (p sw && q sw) = true := fun z => qB_0.mp e1 ((Bool.and_eq_true _ _).mp z).1
            rw [qB_f z]
            refine go_c rfl ?_
            exact fin_i rfl rfl rfl
          · have zp : p sw = true := Classical.byContradiction fun z => e1 (qB_f z)
            refine go_ald_8_0 rfl ?_
            refine go_ild_8_5 rfl ?_
            refine go_ild_8_2 rfl ?_
            refine go_call3 rfl (q3 sw hsw m hm) (Nat.le_of_ble_eq_true rfl) (qb_qv rfl (by decide) (by decide)) ?_
            refine go_ifeq rfl (fun e2 => ?_) (fun e2 => ?_)
            · have z : ¬ (p sw && q sw) = true := fun z => qB_0.mp e2 ((Bool.and_eq_true _ _).mp z).2
              rw [qB_f z]
              refine go_c rfl ?_
              exact fin_i rfl rfl rfl
            · have zq : q sw = true := Classical.byContradiction fun z => e2 (qB_f z)
              have z : (p sw && q sw) = true := by rw [zp, zq]; rfl
              rw [qB_t z]
              refine go_c rfl ?_
              refine go_goto rfl ?_
              exact fin_i rfl rfl rfl
        · obtain ⟨t2, r1, r2, r3, r4⟩ := two h t hh ht
          have ht2 : qG (fun x k => x = 82) s t2 := ht.tr (r4.mo (fun x k h => h.1))
          refine ⟨qb_ui t2 82 h (nI (qm_ac (fun j => p j && q j) nm)), fun R hR7 l7 => r1 R (fun l7 => enS t2 (h + 1 + 1) (j - 1) 14 R ht2 (by omega) g6 ?_ l7) l7, qb_ui_1s, r4.ui ⟨rfl, Nat.le_refl h⟩⟩
          refine go_ald_8_7 rfl ?_
          refine go_c rfl ?_
          refine go_acne (r := some 14) (q := some 15) rfl rfl rfl (fun e => absurd e (by decide)) (fun e => ?_)
          refine go_ald_8_7 rfl ?_
          refine go_c rfl ?_
          refine go_acne (r := some 14) (q := some 14) rfl rfl rfl (fun e => ?_) (fun e => absurd rfl e)
          refine go_ild_8_5 rfl ?_
          refine go_c rfl ?_
          refine go_iclt rfl (fun e1 => ?_) (fun e1 => ?_)
          · exact absurd e1 (by rw [show (2 : Int32) = nI 2 from rfl]; exact fun z => absurd ((nI_ltI (by omega) (by omega)).mp z) (by omega))
          · refine go_inc_8_5 rfl rfl ?_
            rw [hm1]
            refine go_ald_8_0 rfl ?_
            refine go_getr rfl ⟨_, rfl, rfl, by decide, by decide⟩ ?_
            refine go_ild_8_5 rfl ?_
            refine go_c rfl ?_
            refine go_isub rfl ?_
            rw [nI_p1]
            refine go_dup2 rfl ?_
            refine go_iald (j := h) rfl (⟨rfl, by decide, by decide, by decide⟩) (rfl) (by omega) ?_
            rw [r2]
            refine go_ald_8_0 rfl ?_
            refine go_getr rfl ⟨_, rfl, rfl, by decide, by decide⟩ ?_
            refine go_ild_8_5 rfl ?_
            refine go_iald (j := h + 1) rfl (⟨rfl, by decide, by decide, by decide⟩) (rfl) (by omega) ?_
            rw [r3]
            refine go_iand rfl ?_
            rw [sa_and]
            refine go_iast (j := h) rfl (⟨rfl, by decide, by decide, by decide⟩) (rfl) (by omega) ?_
            refine go_goto rfl ?_
            refine go_inc_8_6 rfl rfl ?_
            refine go_goto rfl ?_
            rw [nI_1, show j - 1 + 1 = j by omega]
            exact hR7 _
      · refine ⟨fun sw => p sw || q sw, fun sw hsw m hm => ?_, fun h t hh ht => ?_⟩
        · refine sa_pre (e + 5 + n) m c k sw hk _ ?_
          rw [show m.1 194 (72 + 4 * k) = 3 from by rw [hm]; exact g1, show m.1 194 (72 + 4 * k + 1) = nI x from by rw [hm]; exact g2, show m.1 194 (72 + 4 * k + 2) = nI y from by rw [hm]; exact g3]
          refine go_sw2 (n := 150) rfl (by decide +kernel) ?_
          refine go_ald_8_0 rfl ?_
          refine go_ild_8_4 rfl ?_
          refine go_ild_8_2 rfl ?_
          refine go_call3 rfl (q1 sw hsw m hm) (Nat.le_of_ble_eq_true rfl) (qb_qv rfl (by decide) (by decide)) ?_
          refine go_ifne rfl (fun e1 => ?_) (fun e1 => ?_)
          · have zp := qB_0.mp e1
            refine go_ald_8_0 rfl ?_
            refine go_ild_8_5 rfl ?_
            refine go_ild_8_2 rfl ?_
            refine go_call3 rfl (q3 sw hsw m hm) (Nat.le_of_ble_eq_true rfl) (qb_qv rfl (by decide) (by decide)) ?_
            refine go_ifeq rfl (fun e2 => ?_) (fun e2 => ?_)
            · have z : ¬ (p sw || q sw) = true := fun z => ((Bool.or_eq_true _ _).mp z).elim zp (qB_0.mp e2)
              rw [qB_f z]
              refine go_c rfl ?_
              exact fin_i rfl rfl rfl
            · have zq : q sw = true := Classical.byContradiction fun z => e2 (qB_f z)
              have z : (p sw || q sw) = true := by rw [zq, Bool.or_true]
              rw [qB_t z]
              refine go_c rfl ?_
              refine go_goto rfl ?_
              exact fin_i rfl rfl rfl
          · have zp : p sw = true := Classical.byContradiction fun z => e1 (qB_f z)
            have z : (p sw || q sw) = true := by rw [zp, Bool.true_or]
            rw [qB_t z]
            refine go_c rfl ?_
            refine go_goto rfl ?_
            exact fin_i rfl rfl rfl
        · obtain ⟨t2, r1, r2, r3, r4⟩ := two h t hh ht
          have ht2 : qG (fun x k => x = 82) s t2 := ht.tr (r4.mo (fun x k h => h.1))
          refine ⟨qb_ui t2 82 h (nI (qm_ac (fun j => p j || q j) nm)), fun R hR7 l7 => r1 R (fun l7 => enS t2 (h + 1 + 1) (j - 1) 13 R ht2 (by omega) g6 ?_ l7) l7, qb_ui_1s, r4.ui ⟨rfl, Nat.le_refl h⟩⟩
          refine go_ald_8_7 rfl ?_
          refine go_c rfl ?_
          refine go_acne (r := some 13) (q := some 15) rfl rfl rfl (fun e => absurd e (by decide)) (fun e => ?_)
          refine go_ald_8_7 rfl ?_
          refine go_c rfl ?_
          refine go_acne (r := some 13) (q := some 14) rfl rfl rfl (fun e => absurd e (by decide)) (fun e => ?_)
          refine go_ald_8_7 rfl ?_
          refine go_c rfl ?_
          refine go_acne (r := some 13) (q := some 13) rfl rfl rfl (fun e => ?_) (fun e => absurd rfl e)
          refine go_ild_8_5 rfl ?_
          refine go_c rfl ?_
          refine go_iclt rfl (fun e1 => ?_) (fun e1 => ?_)
          · exact absurd e1 (by rw [show (2 : Int32) = nI 2 from rfl]; exact fun z => absurd ((nI_ltI (by omega) (by omega)).mp z) (by omega))
          · refine go_inc_8_5 rfl rfl ?_
            rw [hm1]
            refine go_ald_8_0 rfl ?_
            refine go_getr rfl ⟨_, rfl, rfl, by decide, by decide⟩ ?_
            refine go_ild_8_5 rfl ?_
            refine go_c rfl ?_
            refine go_isub rfl ?_
            rw [nI_p1]
            refine go_dup2 rfl ?_
            refine go_iald (j := h) rfl (⟨rfl, by decide, by decide, by decide⟩) (rfl) (by omega) ?_
            rw [r2]
            refine go_ald_8_0 rfl ?_
            refine go_getr rfl ⟨_, rfl, rfl, by decide, by decide⟩ ?_
            refine go_ild_8_5 rfl ?_
            refine go_iald (j := h + 1) rfl (⟨rfl, by decide, by decide, by decide⟩) (rfl) (by omega) ?_
            rw [r3]
            refine go_ior rfl ?_
            rw [sa_or]
            refine go_iast (j := h) rfl (⟨rfl, by decide, by decide, by decide⟩) (rfl) (by omega) ?_
            refine go_goto rfl ?_
            refine go_inc_8_6 rfl rfl ?_
            refine go_goto rfl ?_
            rw [nI_1, show j - 1 + 1 = j by omega]
            exact hR7 _
