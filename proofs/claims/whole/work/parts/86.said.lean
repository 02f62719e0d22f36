/-! said, in both: the ones -/
theorem sa_bc : ∀ n : Fin 256, n.1 ≠ 0 → qm_bc 32 (n.1 &&& (n.1 - 1)) + 1 = qm_bc 32 n.1 ∧ (n.1 &&& (n.1 - 1)) < n.1 := by decide +kernel
theorem sp_bits (d : Nat) (s : qb_M) (c : Nat × Nat) (n : Nat) (hn : n < 256) : qe (d + 1) 290 [.int (nI n)] (qb_hp (s), 149, c) = some (some (.int (nI (qm_bc 32 n))), (qb_hp (s), 149, c)) := by
  have loop : ∀ m a b : Nat, b < m → b < 256 → qa_lm (qe (d)) (qa_cd qc_290) (4, [.int (nI n), .int (nI a), .int (nI b)], [], (qb_hp (s), 149, c)) = some (some (.int (nI (a + qm_bc 32 b))), (qb_hp (s), 149, c)) := by
    intro m
    induction m with
    | zero => intro a b h; exact absurd h (Nat.not_lt_zero _)
    | succ m ih =>
      intro a b hm hb
      refine go_ild_3_2 rfl ?_
      refine go_ifeq rfl (fun e => ?_) (fun e => ?_)
      · have e : b = 0 := (nI_eq (b := 0) (by omega) (by decide)).mp e
        subst e
        refine go_ild_3_1 rfl ?_
        exact fin_i rfl rfl rfl
      · have e : b ≠ 0 := fun z => e (by rw [z]; rfl)
        obtain ⟨h1, h2⟩ := sa_bc ⟨b, hb⟩ e
        have h1 : qm_bc 32 (b &&& (b - 1)) + 1 = qm_bc 32 b := h1
        have h2 : (b &&& (b - 1)) < b := h2
        have h3 : nI b - 1 = nI (b - 1) := by
          have := nI_p1 (b - 1)
          rw [show b - 1 + 1 = b by omega] at this
          exact this
        refine go_inc_3_1 rfl rfl ?_
        refine go_ild_3_2 rfl ?_
        refine go_ild_3_2 rfl ?_
        refine go_c rfl ?_
        refine go_isub rfl ?_
        rw [h3]
        refine go_iand rfl ?_
        rw [fa_and, nI_1]
        refine go_ist_3_2 rfl rfl ?_
        refine go_goto rfl ?_
        rw [ih (a + 1) (b &&& (b - 1)) (by omega) (by omega), show a + 1 + qm_bc 32 (b &&& (b - 1)) = a + qm_bc 32 b by omega]
  refine (en_290 d (nI n) _).trans ?_
  refine go_c rfl ?_
  refine go_ist_3_1 rfl rfl ?_
  refine go_ild_3_0 rfl ?_
  refine go_ist_3_2 rfl rfl ?_
  have := loop (n + 1) 0 n (by omega) hn
  rw [Nat.zero_add] at this
  exact this
def sa_ag (sg a b : Int32) : Bool := if sg = 60 then decide (a < b) else if sg = 61 then decide (a = b) else decide (b < a)
theorem sp_agrees (d : Nat) (s : qb_M) (c : Nat × Nat) (a sg b : Int32) : qe (d + 1) 156 [.int a, .int sg, .int b] (qb_hp (s), 149, c) = some (some (.int (qB (sa_ag sg a b = true))), (qb_hp (s), 149, c)) := by
  unfold sa_ag
  refine (en_156 d a sg b _).trans ?_
  refine go_ild_3_1 rfl ?_
  refine go_c rfl ?_
  refine go_icne rfl (fun e => ?_) (fun e => ?_)
  · rw [if_pos e]
    simp only [decide_eq_true_iff]
    refine go_ild_3_0 rfl ?_
    refine go_ild_3_2 rfl ?_
    refine go_icge rfl (fun e2 => ?_) (fun e2 => ?_)
    · rw [qB_f (Int32.not_lt.mpr e2)]
      refine go_c rfl ?_
      exact fin_i rfl rfl rfl
    · rw [qB_t (Int32.not_le.mp e2)]
      refine go_c rfl ?_
      refine go_goto rfl ?_
      exact fin_i rfl rfl rfl
  · rw [if_neg e]
    refine go_ild_3_1 rfl ?_
    refine go_c rfl ?_
    refine go_icne rfl (fun e2 => ?_) (fun e2 => ?_)
    · rw [if_pos e2]
      simp only [decide_eq_true_iff]
      refine go_ild_3_0 rfl ?_
      refine go_ild_3_2 rfl ?_
      refine go_icne rfl (fun e3 => ?_) (fun e3 => ?_)
      · rw [qB_t e3]
        refine go_c rfl ?_
        refine go_goto rfl ?_
        exact fin_i rfl rfl rfl
      · rw [qB_f e3]
        refine go_c rfl ?_
        refine go_goto rfl ?_
        exact fin_i rfl rfl rfl
    · rw [if_neg e2]
      simp only [decide_eq_true_iff]
      refine go_ild_3_0 rfl ?_
      refine go_ild_3_2 rfl ?_
      refine go_icle rfl (fun e3 => ?_) (fun e3 => ?_)
      · rw [qB_f (Int32.not_lt.mpr e3)]
        refine go_c rfl ?_
        exact fin_i rfl rfl rfl
      · rw [qB_t (Int32.not_le.mp e3)]
        refine go_c rfl ?_
        refine go_goto rfl ?_
        exact fin_i rfl rfl rfl
/-- how many, of a switch -/
def sa_n (f : Nat → Int32) (nw : Nat) (lo hi : Nat → Nat) (X w sw : Nat) : Int32 := if w = 20 then nI (qm_bc 32 (qm_ac (fun c => qs_on f c && qm_th lo hi X c sw) nw)) else if w = 21 then f (30 + sw) else nI sw
def sa_q (f : Nat → Int32) (nw : Nat) (lo hi se : Nat → Nat) (X w v : Nat) (sg : Int32) (sw : Nat) : Bool := if w = 18 then decide (se v = sw) else if w = 19 then decide (lo sw = v ∨ hi sw = v) else sa_ag sg (sa_n f nw lo hi X w sw) (nI v)
theorem sp_isSo (d : Nat) (t : qb_M) (c : Nat × Nat) {nw nm ns : Nat} {lo hi se : Nat → Nat} (hp : qP_pl t 67 nw nm lo hi) (hns : t.1 67 7 = nI ns) (hns5 : ns ≤ 5) (hse : ∀ k, k < ns → se k < nm ∧ t.1 72 k = nI (se k)) {X : Nat} (hX : t.1 73 5 = nI X) (hX3 : X < 1024) {i w v : Nat} (hi0 : i < 40) (hw : t.2.2 79 i = some w) (hv : t.1 81 i = nI v) (hwv : w = 18 ∧ v < ns ∨ w = 19 ∧ v < 8 ∨ (w = 20 ∨ w = 21 ∨ w = 22) ∧ v < 1000) (sw : Nat) (hsw : sw < nm) : qe (d + 4) 155 [.ref 78, .int (nI i), .int (nI sw), .ref 67, .ref 73, .ref 125] (qb_hp (t), 149, c) = some (some (.int (qB (sa_q (qs_so t 73) nw lo hi se X w v (t.1 80 i) sw = true))), (qb_hp (t), 149, c)) := by
  have hS := qS_73
  obtain ⟨p1, p2, ⟨p3, p4, p5⟩, p6⟩ := id hp
  obtain ⟨l1, l2, l3, l4⟩ := p6 sw hsw
  refine (en_155 (d + 3) 78 (nI i) (nI sw) 67 73 125 _).trans ?_
  refine go_ald_8_0 rfl ?_
  refine go_getr rfl ⟨_, rfl, rfl, by decide, by decide⟩ ?_
  refine go_ild_8_1 rfl ?_
  refine go_aald (j := i) rfl (⟨rfl, by decide, by decide, by decide⟩) (rfl) (by omega) ?_
  rw [hw]
  refine go_ast_8_6 rfl rfl ?_
  refine go_ald_8_0 rfl ?_
  refine go_getr rfl ⟨_, rfl, rfl, by decide, by decide⟩ ?_
  refine go_ild_8_1 rfl ?_
  refine go_iald (j := i) rfl (⟨rfl, by decide, by decide, by decide⟩) (rfl) (by omega) ?_
  rw [hv]
  refine go_ist_8_7 rfl rfl ?_
  refine go_ald_8_6 rfl ?_
  refine go_c rfl ?_
  unfold sa_q
  rcases hwv with ⟨h1, h2⟩ | ⟨h1, h2⟩ | ⟨h1, h2⟩
  · subst h1
    rw [if_pos rfl]
    simp only [decide_eq_true_iff]
    refine go_acne (r := some 18) (q := some 18) rfl rfl rfl (fun e => ?_) (fun e => absurd rfl e)
    refine go_ild_8_7 rfl ?_
    refine go_ald_8_3 rfl ?_
    refine go_geti rfl ⟨_, rfl, rfl, by decide, by decide⟩ ?_
    rw [hns]
    refine go_icge rfl (fun e1 => ?_) (fun e1 => ?_)
    · exact absurd e1 (nI_ge h2 (by omega))
    · refine go_ald_8_3 rfl ?_
      refine go_getr rfl ⟨_, rfl, rfl, by decide, by decide⟩ ?_
      refine go_ild_8_7 rfl ?_
      refine go_iald (j := v) rfl (⟨rfl, by decide, by decide, by decide⟩) (rfl) (by omega) ?_
      rw [(hse v h2).2]
      refine go_ild_8_2 rfl ?_
      have := (hse v h2).1
      refine go_icne rfl (fun e2 => ?_) (fun e2 => ?_)
      · rw [qB_t ((nI_eq (by omega) (by omega)).mp e2)]
        refine go_c rfl ?_
        refine go_goto rfl ?_
        exact fin_i rfl rfl rfl
      · rw [qB_f (fun z => e2 (by rw [z]))]
        refine go_c rfl ?_
        exact fin_i rfl rfl rfl
  · subst h1
    rw [if_neg (by decide), if_pos rfl]
    simp only [decide_eq_true_iff]
    refine go_acne (r := some 19) (q := some 18) rfl rfl rfl (fun e => absurd e (by decide)) (fun e => ?_)
    refine go_ald_8_6 rfl ?_
    refine go_c rfl ?_
    refine go_acne (r := some 19) (q := some 19) rfl rfl rfl (fun e => ?_) (fun e => absurd rfl e)
    refine go_ald_8_3 rfl ?_
    refine go_getr rfl ⟨_, rfl, rfl, by decide, by decide⟩ ?_
    refine go_ild_8_2 rfl ?_
    refine go_iald (j := sw) rfl (⟨rfl, by decide, by decide, by decide⟩) (rfl) (by omega) ?_
    rw [l1]
    refine go_ild_8_7 rfl ?_
    refine go_iceq rfl (fun e1 => ?_) (fun e1 => ?_)
    · rw [qB_t (Or.inl ((nI_eq (by omega) (by omega)).mp e1))]
      refine go_c rfl ?_
      refine go_goto rfl ?_
      exact fin_i rfl rfl rfl
    · refine go_ald_8_3 rfl ?_
      refine go_getr rfl ⟨_, rfl, rfl, by decide, by decide⟩ ?_
      refine go_ild_8_2 rfl ?_
      refine go_iald (j := sw) rfl (⟨rfl, by decide, by decide, by decide⟩) (rfl) (by omega) ?_
      rw [l2]
      refine go_ild_8_7 rfl ?_
      refine go_icne rfl (fun e2 => ?_) (fun e2 => ?_)
      · rw [qB_t (Or.inr ((nI_eq (by omega) (by omega)).mp e2))]
        refine go_c rfl ?_
        refine go_goto rfl ?_
        exact fin_i rfl rfl rfl
      · rw [qB_f (fun z => z.elim (fun z => e1 (by rw [z])) (fun z => e2 (by rw [z])))]
        refine go_c rfl ?_
        exact fin_i rfl rfl rfl
  · have hA : ∀ a : Int32, qe (d + 3) 156 [.int a, .int (t.1 80 i), .int (nI v)] (qb_hp (t), 149, c) = some (some (.int (qB (sa_ag (t.1 80 i) a (nI v) = true))), (qb_hp (t), 149, c)) := fun a => sp_agrees (d + 2) t c a (t.1 80 i) (nI v)
    have hac : qm_ac (fun c => qs_on (qs_so t 73) c && qm_th lo hi X c sw) nw < 256 := Nat.lt_of_lt_of_le (qm_ac_lt _ nw) (Nat.pow_le_pow_right (n := 2) (by decide) p4)
    rw [if_neg (by omega), if_neg (by omega)]
    unfold sa_n
    rcases h1 with h1 | h1 | h1 <;> subst h1
    · rw [if_pos rfl]
      refine go_acne (r := some 20) (q := some 18) rfl rfl rfl (fun e => absurd e (by decide)) (fun e => ?_)
      refine go_ald_8_6 rfl ?_
      refine go_c rfl ?_
      refine go_acne (r := some 20) (q := some 19) rfl rfl rfl (fun e => absurd e (by decide)) (fun e => ?_)
      refine go_ald_8_6 rfl ?_
      refine go_c rfl ?_
      refine go_acne (r := some 20) (q := some 20) rfl rfl rfl (fun e => ?_) (fun e => absurd rfl e)
      refine go_ald_8_5 rfl ?_
      refine go_ald_8_4 rfl ?_
      refine go_ild_8_2 rfl ?_
      refine go_call3 rfl (sp_callsThrough d t c hS hp hX hX3 sw hsw) (Nat.le_of_ble_eq_true rfl) (qb_qv rfl (by decide) (by decide)) ?_
      refine go_call1 rfl (sp_bitCount (d + 2) _ (by omega) _) (Nat.le_of_ble_eq_true rfl) rfl ?_
      refine go_ald_8_0 rfl ?_
      refine go_getr rfl ⟨_, rfl, rfl, by decide, by decide⟩ ?_
      refine go_ild_8_1 rfl ?_
      refine go_iald (j := i) rfl (⟨rfl, by decide, by decide, by decide⟩) (rfl) (by omega) ?_
      refine go_ild_8_7 rfl ?_
      refine go_call3 rfl (hA _) (Nat.le_of_ble_eq_true rfl) rfl ?_
      exact fin_i rfl (by unfold qB; split <;> rfl) rfl
    · rw [if_neg (by decide), if_pos rfl]
      refine go_acne (r := some 21) (q := some 18) rfl rfl rfl (fun e => absurd e (by decide)) (fun e => ?_)
      refine go_ald_8_6 rfl ?_
      refine go_c rfl ?_
      refine go_acne (r := some 21) (q := some 19) rfl rfl rfl (fun e => absurd e (by decide)) (fun e => ?_)
      refine go_ald_8_6 rfl ?_
      refine go_c rfl ?_
      refine go_acne (r := some 21) (q := some 20) rfl rfl rfl (fun e => absurd e (by decide)) (fun e => ?_)
      refine go_ald_8_6 rfl ?_
      refine go_c rfl ?_
      refine go_acne (r := some 21) (q := some 21) rfl rfl rfl (fun e => ?_) (fun e => absurd rfl e)
      refine go_ald_8_4 rfl ?_
      refine go_getr rfl (qS_f hS rfl) ?_
      refine go_ild_8_2 rfl ?_
      refine go_iald (j := sw) rfl (⟨rfl, by decide, by decide, by decide⟩) (rfl) (by omega) ?_
      rw [show t.1 77 sw = qs_so t 73 (30 + sw) from (qs_so_t (a := 73)).symm]
      refine go_goto rfl ?_
      refine go_ald_8_0 rfl ?_
      refine go_getr rfl ⟨_, rfl, rfl, by decide, by decide⟩ ?_
      refine go_ild_8_1 rfl ?_
      refine go_iald (j := i) rfl (⟨rfl, by decide, by decide, by decide⟩) (rfl) (by omega) ?_
      refine go_ild_8_7 rfl ?_
      refine go_call3 rfl (hA _) (Nat.le_of_ble_eq_true rfl) rfl ?_
      exact fin_i rfl (by unfold qB; split <;> rfl) rfl
    · rw [if_neg (by decide), if_neg (by decide)]
      refine go_acne (r := some 22) (q := some 18) rfl rfl rfl (fun e => absurd e (by decide)) (fun e => ?_)
      refine go_ald_8_6 rfl ?_
      refine go_c rfl ?_
      refine go_acne (r := some 22) (q := some 19) rfl rfl rfl (fun e => absurd e (by decide)) (fun e => ?_)
      refine go_ald_8_6 rfl ?_
      refine go_c rfl ?_
      refine go_acne (r := some 22) (q := some 20) rfl rfl rfl (fun e => absurd e (by decide)) (fun e => ?_)
      refine go_ald_8_6 rfl ?_
      refine go_c rfl ?_
      refine go_acne (r := some 22) (q := some 21) rfl rfl rfl (fun e => absurd e (by decide)) (fun e => ?_)
      refine go_ild_8_2 rfl ?_
      refine go_ald_8_0 rfl ?_
      refine go_getr rfl ⟨_, rfl, rfl, by decide, by decide⟩ ?_
      refine go_ild_8_1 rfl ?_
      refine go_iald (j := i) rfl (⟨rfl, by decide, by decide, by decide⟩) (rfl) (by omega) ?_
      refine go_ild_8_7 rfl ?_
      refine go_call3 rfl (hA _) (Nat.le_of_ble_eq_true rfl) rfl ?_
      exact fin_i rfl (by unfold qB; split <;> rfl) rfl
