/-! lever, in both -/
theorem qa_lm_none {o : qa_O} {cd : qa_Cd} {pc : Nat} {L S : List Value} {h : qa_H} (hc : cd pc = none) : qa_lm o cd (pc, L, S, h) = none := by
  cases hx : qa_lm o cd (pc, L, S, h) with
  | none => rfl
  | some r =>
    obtain ⟨k, hk⟩ := qa_lm_run hx
    cases k with
    | zero => cases hk
    | succ k =>
      have hk : (match cd pc with | none => none | some op => match op o L S h with | none => none | some (.inr r) => some r | some (.inl y) => qa_run o cd k y) = some r := hk
      rw [hc] at hk
      cases hk
theorem sp_refuse (d : Nat) (s : qb_M) (c : Nat × Nat) : qe (d + 1) 195 [.ref 192] (qb_hp (s), 149, c) = some (some (.int (0)), (qb_hp (qb_ui s 192 0 1), 149, c)) := by
  refine (en_195 d 192 _).trans ?_
  refine go_ald_1_0 rfl ?_
  refine go_c rfl ?_
  refine go_puti rfl ⟨_, rfl, rfl, by decide, by decide⟩ rfl rfl ?_
  refine go_c rfl ?_
  exact fin_i rfl rfl rfl
def qL_g (s : qb_M) (p0 p1 : Int32) : Prop := (0 ≤ p0 ∧ p0 < s.1 67 6) ∧ ¬ (p1 < 0 ∨ 5 < p1)
def qL (d : Nat) (s : qb_M) (c : Nat × Nat) (p0 p1 : Int32) : Prop := (qL_g s p0 p1 ∧ ∃ v u, qe (d) 160 [.ref 64, .int p0, .int p1] (qb_hp (s), 149, c) = some (some (.int (v)), (qb_hp (s), 149, c)) ∧ qe (d) 193 [.ref 192, .int p0, .int p1] (qb_hp (qb_ul s 212 0 v.toInt64), 149, c) = some (some (.int (v)), (qb_hp (u), 149, c)) ∧ qZ u ∧ u.1 192 0 = 0 ∧ u.2.1 212 0 = v.toInt64) ∨ (¬ qL_g s p0 p1 ∧ qe (d) 160 [.ref 64, .int p0, .int p1] (qb_hp (s), 149, c) = none ∧ (∃ b, qe (d) 84 [.ref 64, .int p0] (qb_hp (s), 149, c) = some (some (.int (b)), (qb_hp (s), 149, c)) ∧ (b = 0 ∨ p1 < 0 ∨ 5 < p1)) ∧ ∃ w u, qe (d) 193 [.ref 192, .int p0, .int p1] (qb_hp (s), 149, c) = some (some (.int (w)), (qb_hp (u), 149, c)) ∧ qZ u ∧ u.1 192 0 = 1)
theorem q_lever (d : Nat) (s : qb_M) (c : Nat × Nat) (hZ : qZ s) (p0 p1 : Int32) : qL (d + 20) s c p0 p1 := by
  obtain ⟨-, nw, nm, ns, V, F0, lo, hi, se, h1, h2, h3, h4⟩ := id hZ
  obtain ⟨hR, H, X, J, Lf, Sh, hI⟩ := id h2
  have hIc := hR.in hI
  have hX5 : s.1 73 5 = nI X := by rw [← qs_so_h (s := s) (a := 73) (k := 1) (by decide)]; exact hIc.2.1.1
  have hJ5 : s.1 73 6 = nI J := by rw [← qs_so_h (s := s) (a := 73) (k := 2) (by decide)]; exact hIc.2.2.1.1
  have hX1 : s.1 194 31 = nI X := hI.2.1.1
  have hJ1 : s.1 194 32 = nI J := hI.2.2.1.1
  have h10 : 2 ^ nm ≤ 2 ^ 10 := Nat.pow_le_pow_right (by decide) h1.1.2.2.1
  have hXl := hI.2.1.2
  have hJl := hI.2.2.1.2
  have hnm := h1.1.2.2.1
  have h84 : ∀ d, qe (d + 1) 84 [.ref 64, .int p0] (qb_hp (s), 149, c) = some (some (.int (qB (0 ≤ p0 ∧ p0 < nI nm))), (qb_hp (s), 149, c)) := fun d => sp_isSwitchB d s c h1.2.1.2.1 p0
  have h194 : ∀ t : qb_M, t.1 194 1 = nI nm → ∀ d, qe (d + 2) 194 [.ref 192, .int p0] (qb_hp (t), 149, c) = some (some (.int (qB (0 ≤ p0 ∧ p0 < nI nm))), (qb_hp (t), 149, c)) := fun t ht d => sp_isSwitch d t c ht hnm p0
  have stuck : ∀ L : List Value, qa_lm (qe (d + 19)) (qa_cd qc_160) (17, L, [], (qb_hp s, 149, c)) = none := fun L => qa_lm_none rfl
  have hr1 : (qb_ui s 192 0 0).1 194 1 = nI nm := h1.2.2.1.2.1
  have h676 : s.1 67 6 = nI nm := h1.2.1.2.1
  have zR : qZ (qb_ui (qb_ui s 192 0 0) 192 0 1) := (hZ.thr 0).thr 1
  have bad : (¬ (0 ≤ p0 ∧ p0 < nI nm) ∨ p1 < 0 ∨ 5 < p1) → qe (d + 20) 160 [.ref 64, .int p0, .int p1] (qb_hp (s), 149, c) = none ∧ qe (d + 20) 193 [.ref 192, .int p0, .int p1] (qb_hp (s), 149, c) = some (some (.int (0)), (qb_hp (qb_ui (qb_ui s 192 0 0) 192 0 1), 149, c)) := fun hb => by
    constructor
    · refine (en_160 (d + 19) 64 p0 p1 _).trans ?_
      refine go_ald_3_0 rfl ?_
      refine go_ild_3_1 rfl ?_
      refine go_call2 rfl (h84 (d + 18)) (Nat.le_of_ble_eq_true rfl) (qb_qv rfl (by decide) (by decide)) ?_
      refine go_ifeq rfl (fun e => ?_) (fun e => ?_)
      · exact stuck _
      · have hs : 0 ≤ p0 ∧ p0 < nI nm := Classical.byContradiction fun z => e (qB_f z)
        refine go_ild_3_2 rfl ?_
        refine go_iflt rfl (fun e2 => ?_) (fun e2 => ?_)
        · exact stuck _
        · refine go_ild_3_2 rfl ?_
          refine go_c rfl ?_
          refine go_icle rfl (fun e3 => ?_) (fun e3 => ?_)
          · exact absurd hb (fun z => z.elim (fun z => z hs) (fun z => z.elim e2 (fun z => absurd e3 (Int32.not_le.mpr z))))
          · exact stuck _
    · refine (en_193 (d + 19) 192 p0 p1 _).trans ?_
      refine go_ald_3_0 rfl ?_
      refine go_c rfl ?_
      refine go_puti rfl ⟨_, rfl, rfl, by decide, by decide⟩ rfl rfl ?_
      refine go_ald_3_0 rfl ?_
      refine go_ild_3_1 rfl ?_
      refine go_call2 rfl (h194 _ hr1 (d + 17)) (Nat.le_of_ble_eq_true rfl) (qb_qv rfl (by decide) (by decide)) ?_
      refine go_ifne rfl (fun e => ?_) (fun e => ?_)
      · refine go_ald_3_0 rfl ?_
        refine go_call1 rfl (sp_refuse (d + 18) (qb_ui s 192 0 0) c) (Nat.le_of_ble_eq_true rfl) (qb_qv rfl (by decide) (by decide)) ?_
        exact fin_i rfl rfl rfl
      · have hs : 0 ≤ p0 ∧ p0 < nI nm := Classical.byContradiction fun z => e (qB_f z)
        have hb := hb.resolve_left (fun z => z hs)
        have n0 : ∀ k : Int32, 0 ≤ k → k ≤ 5 → ¬ p1 = k := fun k k1 k2 z => by
          subst z
          exact hb.elim (fun q => absurd k1 (Int32.not_le.mpr q)) (fun q => absurd k2 (Int32.not_le.mpr q))
        refine go_ild_3_2 rfl ?_
        refine go_sw2 (n := 131) rfl (by
          unfold qa_sw
          rw [if_neg (n0 0 (by decide) (by decide))]
          unfold qa_sw
          rw [if_neg (n0 1 (by decide) (by decide))]
          unfold qa_sw
          rw [if_neg (n0 2 (by decide) (by decide))]
          unfold qa_sw
          rw [if_neg (n0 3 (by decide) (by decide))]
          unfold qa_sw
          rw [if_neg (n0 4 (by decide) (by decide))]
          unfold qa_sw
          rw [if_neg (n0 5 (by decide) (by decide))]
          rfl) ?_
        refine go_ald_3_0 rfl ?_
        refine go_call1 rfl (sp_refuse (d + 18) (qb_ui s 192 0 0) c) (Nat.le_of_ble_eq_true rfl) (qb_qv rfl (by decide) (by decide)) ?_
        exact fin_i rfl rfl rfl
  by_cases hs : 0 ≤ p0 ∧ p0 < nI nm
  · by_cases hp : p1 < 0 ∨ 5 < p1
    · obtain ⟨b1, b2⟩ := bad (Or.inr hp)
      exact Or.inr ⟨fun g => g.2 hp, b1, ⟨_, h84 (d + 19), Or.inr hp⟩, 0, _, b2, zR, qb_ui_1s⟩
    · have hp0 : ¬ p1 < 0 := fun z => hp (Or.inl z)
      have hp5 : p1 ≤ 5 := Int32.not_lt.mp (fun z => hp (Or.inr z))
      obtain ⟨k, hk31, rfl⟩ := nI_of (x := p0) (Int32.not_lt.mpr hs.1)
      have hk : k < nm := (nI_ltI hk31 (by omega)).mp hs.2
      obtain ⟨j, hj, rfl⟩ := nI_of2 (x := p1) (M := 5) (n := 5) rfl hp0 hp5
      have enC : ∀ R, qa_lm (qe (d + 19)) (qa_cd qc_160) (27, [.ref 64, .int (nI k), .int (nI j)], [], (qb_hp (s), 149, c)) = R → qe (d + 20) 160 [.ref 64, .int (nI k), .int (nI j)] (qb_hp (s), 149, c) = R := fun R hR' => by
        refine (en_160 (d + 19) 64 (nI k) (nI j) _).trans ?_
        refine go_ald_3_0 rfl ?_
        refine go_ild_3_1 rfl ?_
        refine go_call2 rfl (h84 (d + 18)) (Nat.le_of_ble_eq_true rfl) (qb_qv rfl (by decide) (by decide)) ?_
        refine go_ifeq rfl (fun e => ?_) (fun e => ?_)
        · exact absurd hs (qB_0.mp e)
        · refine go_ild_3_2 rfl ?_
          refine go_iflt rfl (fun e2 => ?_) (fun e2 => ?_)
          · exact absurd e2 hp0
          · refine go_ild_3_2 rfl ?_
            refine go_c rfl ?_
            refine go_icle rfl (fun e3 => ?_) (fun e3 => ?_)
            · exact hR'
            · exact absurd hp5 e3
      have enM : ∀ (x : Int64) R, qa_lm (qe (d + 19)) (qa_cd qc_193) (18, [.ref 192, .int (nI k), .int (nI j)], [], (qb_hp (qb_ui (qb_ul s 212 0 x) 192 0 0), 149, c)) = R → qe (d + 20) 193 [.ref 192, .int (nI k), .int (nI j)] (qb_hp (qb_ul s 212 0 x), 149, c) = R := fun x R hR' => by
        refine (en_193 (d + 19) 192 (nI k) (nI j) _).trans ?_
        refine go_ald_3_0 rfl ?_
        refine go_c rfl ?_
        refine go_puti rfl ⟨_, rfl, rfl, by decide, by decide⟩ rfl rfl ?_
        refine go_ald_3_0 rfl ?_
        refine go_ild_3_1 rfl ?_
        refine go_call2 rfl (h194 _ (show (qb_ui (qb_ul s 212 0 x) 192 0 0).1 194 1 = nI nm from hr1) (d + 17)) (Nat.le_of_ble_eq_true rfl) (qb_qv rfl (by decide) (by decide)) ?_
        refine go_ifne rfl (fun e => ?_) (fun e => ?_)
        · exact absurd hs (qB_0.mp e)
        · exact hR'
      have good : ∀ v : Int32, qe (d + 20) 160 [.ref 64, .int (nI k), .int (nI j)] (qb_hp (s), 149, c) = some (some (.int (v)), (qb_hp (s), 149, c)) → qa_lm (qe (d + 19)) (qa_cd qc_193) (18, [.ref 192, .int (nI k), .int (nI j)], [], (qb_hp (qb_ui (qb_ul s 212 0 v.toInt64) 192 0 0), 149, c)) = some (some (.int (v)), (qb_hp (qb_ui (qb_ul s 212 0 v.toInt64) 192 0 0), 149, c)) → qL (d + 20) s c (nI k) (nI j) := fun v g1 g2 => Or.inl ⟨⟨by rw [h676]; exact hs, hp⟩, v, _, g1, enM _ _ g2, (hZ.mv (P := fun x k => x = 212) (qG.rf.ul rfl) (fun x k hx => by unfold qZ_no qZx_no at hx; omega)).thr 0, qb_ui_1s, qb_ul_1s⟩
      have hjj : j = 0 ∨ j = 1 ∨ j = 2 ∨ j = 3 ∨ j = 4 ∨ j = 5 := by omega
      obtain ⟨q1, q2, q3, q4⟩ := h1.2.2.2.1 k hk
      have low : s.1 194 (5 + k) = nI (lo k) := by have := q3.1; rw [Nat.zero_add] at this; exact this
      have high : s.1 194 (15 + k) = nI (hi k) := by have := q3.2; rw [Nat.zero_add] at this; exact this
      have i5 : (5 : Int32) + nI k = nI (5 + k) := nI_add 5 k
      have i15 : (15 : Int32) + nI k = nI (15 + k) := nI_add 15 k
      have i60 : (60 : Int32) + nI k = nI (60 + k) := nI_add 60 k
      have bit : ∀ (B : Nat), B < 2 ^ nm → qB (B.testBit k = true) = nI (B / 2 ^ k % 2) := fun B hB => by
        have hb2 := Nat.toNat_testBit B k
        cases hb : B.testBit k with
        | true => rw [hb] at hb2; rw [← hb2, qB_t rfl]; rfl
        | false => rw [hb] at hb2; rw [← hb2, qB_f (by decide)]; rfl
      rcases hjj with e | e | e | e | e | e <;> subst e
      · refine good (nI (lo k)) (enC _ ?_) ?_
        · refine go_ild_3_2 rfl ?_
          refine go_sw2 (n := 64) rfl (by decide +kernel) ?_
          refine go_ald_3_0 rfl ?_
          refine go_getr rfl ⟨_, rfl, rfl, by decide, by decide⟩ ?_
          refine go_getr rfl ⟨_, rfl, rfl, by decide, by decide⟩ ?_
          refine go_ild_3_1 rfl ?_
          refine go_iald (j := k) rfl ⟨rfl, by decide, by decide, by decide⟩ rfl (by omega) ?_
          rw [show s.1 68 k = nI (lo k) from q2.1]
          exact fin_i rfl rfl rfl
        · refine go_ild_3_2 rfl ?_
          refine go_sw2 (n := 56) rfl (by decide +kernel) ?_
          refine go_ald_3_0 rfl ?_
          refine go_getr rfl ⟨_, rfl, rfl, by decide, by decide⟩ ?_
          refine go_c rfl ?_
          refine go_ild_3_1 rfl ?_
          refine go_iadd rfl ?_
          rw [i5]
          refine go_iald (j := 5 + k) rfl ⟨rfl, by decide, by decide, by decide⟩ rfl (by omega) ?_
          rw [show (qb_ui (qb_ul s 212 0 (nI (lo k)).toInt64) 192 0 0).1 194 (5 + k) = nI (lo k) from (qb_ui_1n (by omega)).trans low]
          exact fin_i rfl rfl rfl
      · refine good (nI (hi k)) (enC _ ?_) ?_
        · refine go_ild_3_2 rfl ?_
          refine go_sw2 (n := 74) rfl (by decide +kernel) ?_
          refine go_ald_3_0 rfl ?_
          refine go_getr rfl ⟨_, rfl, rfl, by decide, by decide⟩ ?_
          refine go_getr rfl ⟨_, rfl, rfl, by decide, by decide⟩ ?_
          refine go_ild_3_1 rfl ?_
          refine go_iald (j := k) rfl ⟨rfl, by decide, by decide, by decide⟩ rfl (by omega) ?_
          rw [show s.1 69 k = nI (hi k) from q2.2]
          exact fin_i rfl rfl rfl
        · refine go_ild_3_2 rfl ?_
          refine go_sw2 (n := 65) rfl (by decide +kernel) ?_
          refine go_ald_3_0 rfl ?_
          refine go_getr rfl ⟨_, rfl, rfl, by decide, by decide⟩ ?_
          refine go_c rfl ?_
          refine go_ild_3_1 rfl ?_
          refine go_iadd rfl ?_
          rw [i15]
          refine go_iald (j := 15 + k) rfl ⟨rfl, by decide, by decide, by decide⟩ rfl (by omega) ?_
          rw [show (qb_ui (qb_ul s 212 0 (nI (hi k)).toInt64) 192 0 0).1 194 (15 + k) = nI (hi k) from (qb_ui_1n (by omega)).trans high]
          exact fin_i rfl rfl rfl
      · refine good (nI (X / 2 ^ k % 2)) (enC _ ?_) ?_
        · have hS := qS_73
          refine go_ild_3_2 rfl ?_
          refine go_sw2 (n := 84) rfl (by decide +kernel) ?_
          refine go_ald_3_0 rfl ?_
          refine go_getr rfl ⟨_, rfl, rfl, by decide, by decide⟩ ?_
          refine go_geti rfl (qS_f hS rfl) ?_
          rw [hX5]
          refine go_ild_3_1 rfl ?_
          refine go_ishr rfl ?_
          refine go_c rfl ?_
          refine go_iand rfl ?_
          rw [qx_bit (by omega) (by omega)]
          exact fin_i rfl rfl rfl
        · have hh := sp_has (d + 18) X k (by omega) (by omega) (qb_hp (qb_ui (qb_ul s 212 0 (nI (X / 2 ^ k % 2)).toInt64) 192 0 0), 149, c)
          rw [bit X hXl] at hh
          refine go_ild_3_2 rfl ?_
          refine go_sw2 (n := 75) rfl (by decide +kernel) ?_
          refine go_ald_3_0 rfl ?_
          refine go_getr rfl ⟨_, rfl, rfl, by decide, by decide⟩ ?_
          refine go_c rfl ?_
          refine go_iald (j := 31) rfl ⟨rfl, by decide, by decide, by decide⟩ rfl (by decide) ?_
          rw [show (qb_ui (qb_ul s 212 0 (nI (X / 2 ^ k % 2)).toInt64) 192 0 0).1 194 31 = nI X from (qb_ui_1n (by omega)).trans hX1]
          refine go_ild_3_1 rfl ?_
          refine go_call2 rfl (hh) (Nat.le_of_ble_eq_true rfl) rfl ?_
          refine go_ifeq rfl (fun e => ?_) (fun e => ?_)
          · refine go_c rfl ?_
            exact fin_i rfl rfl (by rw [e])
          · have e1 : nI (X / 2 ^ k % 2) = 1 := by
              have hlt : X / 2 ^ k % 2 < 2 := Nat.mod_lt _ (by decide)
              have h0 : X / 2 ^ k % 2 ≠ 0 := fun z => e (by rw [z]; rfl)
              rw [show X / 2 ^ k % 2 = 1 by omega]; rfl
            refine go_c rfl ?_
            refine go_goto rfl ?_
            exact fin_i rfl rfl (by rw [e1])
      · refine good (nI (J / 2 ^ k % 2)) (enC _ ?_) ?_
        · have hS := qS_73
          refine go_ild_3_2 rfl ?_
          refine go_sw2 (n := 96) rfl (by decide +kernel) ?_
          refine go_ald_3_0 rfl ?_
          refine go_getr rfl ⟨_, rfl, rfl, by decide, by decide⟩ ?_
          refine go_geti rfl (qS_f hS rfl) ?_
          rw [hJ5]
          refine go_ild_3_1 rfl ?_
          refine go_ishr rfl ?_
          refine go_c rfl ?_
          refine go_iand rfl ?_
          rw [qx_bit (by omega) (by omega)]
          exact fin_i rfl rfl rfl
        · have hh := sp_has (d + 18) J k (by omega) (by omega) (qb_hp (qb_ui (qb_ul s 212 0 (nI (J / 2 ^ k % 2)).toInt64) 192 0 0), 149, c)
          rw [bit J hJl] at hh
          refine go_ild_3_2 rfl ?_
          refine go_sw2 (n := 95) rfl (by decide +kernel) ?_
          refine go_ald_3_0 rfl ?_
          refine go_getr rfl ⟨_, rfl, rfl, by decide, by decide⟩ ?_
          refine go_c rfl ?_
          refine go_iald (j := 32) rfl ⟨rfl, by decide, by decide, by decide⟩ rfl (by decide) ?_
          rw [show (qb_ui (qb_ul s 212 0 (nI (J / 2 ^ k % 2)).toInt64) 192 0 0).1 194 32 = nI J from (qb_ui_1n (by omega)).trans hJ1]
          refine go_ild_3_1 rfl ?_
          refine go_call2 rfl (hh) (Nat.le_of_ble_eq_true rfl) rfl ?_
          refine go_ifeq rfl (fun e => ?_) (fun e => ?_)
          · refine go_c rfl ?_
            exact fin_i rfl rfl (by rw [e])
          · have e1 : nI (J / 2 ^ k % 2) = 1 := by
              have hlt : J / 2 ^ k % 2 < 2 := Nat.mod_lt _ (by decide)
              have h0 : J / 2 ^ k % 2 ≠ 0 := fun z => e (by rw [z]; rfl)
              rw [show J / 2 ^ k % 2 = 1 by omega]; rfl
            refine go_c rfl ?_
            refine go_goto rfl ?_
            exact fin_i rfl rfl (by rw [e1])
      · have hcb : ∀ x : Int64, qe (d + 19) 197 [.ref 192, .int (nI k)] (qb_hp (qb_ui (qb_ul s 212 0 x) 192 0 0), 149, c) = some (some (.int (nI (qm_ac (fun w => qs_on (qs_so s 73) w && qm_th lo hi X w k) nw))), (qb_hp (qb_ui (qb_ul s 212 0 x) 192 0 0), 149, c)) := fun x => by
          have := sp_callsBy (d + 14) (qb_ui (qb_ul s 212 0 x) 192 0 0) c (nw := nw) (nm := nm) (lo := lo) (hi := hi) h1.m X hX1 (by omega) k hk
          rw [qm_ac_cong (p := fun w => qs_on (qm_so (qb_ui (qb_ul s 212 0 x) 192 0 0)) w && qm_th lo hi X w k) (q := fun w => qs_on (qs_so s 73) w && qm_th lo hi X w k) (fun w hw => by
            have := hR.on (w := w) (by have := h1.1.2.1; omega)
            rw [this]; rfl)] at this
          exact this
        refine good (nI (qm_ac (fun w => qs_on (qs_so s 73) w && qm_th lo hi X w k) nw)) (enC _ ?_) ?_
        · refine go_ild_3_2 rfl ?_
          refine go_sw2 (n := 108) rfl (by decide +kernel) ?_
          refine go_ald_3_0 rfl ?_
          refine go_getr rfl ⟨_, rfl, rfl, by decide, by decide⟩ ?_
          refine go_ald_3_0 rfl ?_
          refine go_getr rfl ⟨_, rfl, rfl, by decide, by decide⟩ ?_
          refine go_ild_3_1 rfl ?_
          refine go_call3 rfl (sp_callsThrough (d + 16) s c qS_73 h1.c hX5 (by omega) k hk) (Nat.le_of_ble_eq_true rfl) (qb_qv rfl (by decide) (by decide)) ?_
          exact fin_i rfl rfl rfl
        · refine go_ild_3_2 rfl ?_
          refine go_sw2 (n := 115) rfl (by decide +kernel) ?_
          refine go_ald_3_0 rfl ?_
          refine go_ild_3_1 rfl ?_
          refine go_call2 rfl (hcb _) (Nat.le_of_ble_eq_true rfl) (qb_qv rfl (by decide) (by decide)) ?_
          exact fin_i rfl rfl rfl
      · have ht : s.1 77 k = s.1 194 (60 + k) := by
          have := hR.1 (30 + k) (by omega) (Or.inr (by omega))
          rw [show qm_so s (30 + k) = s.1 194 (30 + (30 + k)) from rfl, show 30 + (30 + k) = 60 + k by omega] at this
          rw [← this]
          unfold qs_so
          rw [if_neg (by omega), if_neg (by omega), if_neg (by omega), if_neg (by omega), show 30 + k - 30 = k by omega]
        refine good (s.1 77 k) (enC _ ?_) ?_
        · have hS := qS_73
          refine go_ild_3_2 rfl ?_
          refine go_sw2 (n := 121) rfl (by decide +kernel) ?_
          refine go_ald_3_0 rfl ?_
          refine go_getr rfl ⟨_, rfl, rfl, by decide, by decide⟩ ?_
          refine go_getr rfl (qS_f hS rfl) ?_
          refine go_ild_3_1 rfl ?_
          refine go_iald (j := k) rfl ⟨rfl, by decide, by decide, by decide⟩ rfl (by omega) ?_
          exact fin_i rfl rfl rfl
        · refine go_ild_3_2 rfl ?_
          refine go_sw2 (n := 121) rfl (by decide +kernel) ?_
          refine go_ald_3_0 rfl ?_
          refine go_getr rfl ⟨_, rfl, rfl, by decide, by decide⟩ ?_
          refine go_c rfl ?_
          refine go_ild_3_1 rfl ?_
          refine go_iadd rfl ?_
          rw [i60]
          refine go_iald (j := 60 + k) rfl ⟨rfl, by decide, by decide, by decide⟩ rfl (by omega) ?_
          rw [show (qb_ui (qb_ul s 212 0 (s.1 77 k).toInt64) 192 0 0).1 194 (60 + k) = s.1 77 k from (qb_ui_1n (by omega)).trans ht.symm]
          exact fin_i rfl rfl rfl
  · obtain ⟨b1, b2⟩ := bad (Or.inl hs)
    exact Or.inr ⟨fun g => hs (by have := g.1; rw [h676] at this; exact this), b1, ⟨_, h84 (d + 19), Or.inl (qB_f hs)⟩, 0, _, b2, zR, qb_ui_1s⟩
