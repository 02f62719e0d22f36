/-! PURE: states of the component, wherever they stand -/
def qS_fl (a : Nat) : List (Nat × Nat) := [(2, a + 1), (2, a + 2), (2, a + 3), (2, a + 4), (0, 0), (0, 0), (0, 0), (0, 0), (0, 0), (0, 0)]
def qS_sh (a : Nat) : Prop := qb_sh a = .inr (6, qS_fl a) ∧ (qb_ia (a + 1) 0 8 ∧ qb_ia (a + 2) 0 8 ∧ qb_ia (a + 3) 0 8 ∧ qb_ia (a + 4) 0 10) ∧ 64 ≤ a ∧ a < 213
theorem qS_f {a : Nat} (h : qS_sh a) {k : Nat} {q : Nat × Nat} (hk : (qS_fl a)[k]? = some q) : qb_is a 6 k q := ⟨_, h.1, hk, h.2.2.1, h.2.2.2⟩
theorem qS_v {a : Nat} (h : qS_sh a) {s : qb_M} {c : Nat × Nat} {As : List Value} : qv_o 6 (qb_hp s, 149, c) (.ref a :: As) = true := qb_qv h.1 h.2.2.1 h.2.2.2
/-- what is so, by the same forty places -/
def qs_so (s : qb_M) (a : Nat) : Nat → Int32 := fun k => if k < 6 then s.1 a (4 + k) else if k < 14 then s.1 (a + 1) (k - 6) else if k < 22 then s.1 (a + 2) (k - 14) else if k < 30 then s.1 (a + 3) (k - 22) else s.1 (a + 4) (k - 30)
theorem qs_so_h {s : qb_M} {a k : Nat} (h : k < 6) : qs_so s a k = s.1 a (4 + k) := if_pos h
theorem qs_so_o {s : qb_M} {a w : Nat} (h : w < 8) : qs_so s a (6 + w) = s.1 (a + 1) w := by
  unfold qs_so
  rw [if_neg (by omega), if_pos (by omega), show 6 + w - 6 = w by omega]
theorem qs_so_l {s : qb_M} {a w : Nat} (h : w < 8) : qs_so s a (14 + w) = s.1 (a + 2) w := by
  unfold qs_so
  rw [if_neg (by omega), if_neg (by omega), if_pos (by omega), show 14 + w - 14 = w by omega]
theorem qs_so_s {s : qb_M} {a w : Nat} (h : w < 8) : qs_so s a (22 + w) = s.1 (a + 3) w := by
  unfold qs_so
  rw [if_neg (by omega), if_neg (by omega), if_neg (by omega), if_pos (by omega), show 22 + w - 22 = w by omega]
theorem qs_so_t {s : qb_M} {a k : Nat} : qs_so s a (30 + k) = s.1 (a + 4) k := by
  unfold qs_so
  rw [if_neg (by omega), if_neg (by omega), if_neg (by omega), if_neg (by omega), show 30 + k - 30 = k by omega]
theorem sp_isUp (d : Nat) (s : qb_M) (c : Nat × Nat) {a : Nat} (hS : qS_sh a) (w : Nat) (hw : w < 8) : qe (d + 1) 47 [.ref a, .int (nI w)] (qb_hp s, 149, c) = some (some (.int (qB (qs_on (qs_so s a) w = true))), (qb_hp s, 149, c)) := by
  refine (en_47 d a (nI w) _).trans ?_
  refine go_ald_2_0 rfl ?_
  refine go_getr rfl (qS_f hS rfl) ?_
  refine go_ild_2_1 rfl ?_
  refine go_iald (j := w) rfl (hS.2.1.1) (rfl) (by omega) ?_
  refine go_c rfl ?_
  have e0 : qs_on (qs_so s a) w = true ↔ s.1 (a + 1) w ≠ -1 := by unfold qs_on; rw [decide_eq_true_eq, qs_so_o hw]
  refine go_iceq rfl (fun e => ?_) (fun e => ?_)
  · refine go_c rfl ?_
    exact fin_i rfl rfl (qR_i (qB_f (fun q => e0.mp q e)).symm)
  · refine go_c rfl ?_
    refine go_goto rfl ?_
    exact fin_i rfl rfl (qR_i (qB_t (e0.mpr e)).symm)
theorem sp_hoursLeft (d : Nat) (s : qb_M) (c : Nat × Nat) {a : Nat} (hS : qS_sh a) : qe (d + 1) 78 [.ref a] (qb_hp s, 149, c) = some (some (.int (400 - qs_so s a 0)), (qb_hp s, 149, c)) := by
  refine (en_78 d a _).trans ?_
  refine go_c rfl ?_
  refine go_ald_1_0 rfl ?_
  refine go_geti rfl (qS_f hS rfl) ?_
  refine go_isub rfl ?_
  exact fin_i rfl rfl (rfl)
def qs_up (f : Nat → Int32) : Nat := qm_ac (qs_on f) 8
theorem sp_wiresUp (d : Nat) (s : qb_M) (c : Nat × Nat) {a : Nat} (hS : qS_sh a) : qe (d + 2) 54 [.ref a] (qb_hp s, 149, c) = some (some (.int (nI (qs_up (qs_so s a)))), (qb_hp s, 149, c)) := by
  have loop : ∀ (n w : Nat), w + n = 8 → qa_lm (qe (d + 1)) (qa_cd qc_54) (4, [.ref a, .int (nI (qm_ac (qs_on (qs_so s a)) w)), .int (nI w)], [], (qb_hp s, 149, c)) = some (some (.int (nI (qs_up (qs_so s a)))), (qb_hp s, 149, c)) := by
    intro n
    induction n with
    | zero =>
      intro w hw
      have hw : w = 8 := by omega
      subst hw
      refine go_ild_3_2 rfl ?_
      refine go_c rfl ?_
      refine go_icge rfl (fun e => ?_) (fun e => ?_)
      · refine go_ild_3_1 rfl ?_
        exact fin_i rfl rfl (rfl)
      · exact absurd (by decide) e
    | succ n ih =>
      intro w hw
      refine go_ild_3_2 rfl ?_
      refine go_c rfl ?_
      refine go_icge rfl (fun e => ?_) (fun e => ?_)
      · exact absurd e (nI_ge (b := 8) (by omega) (by omega))
      · refine go_ald_3_0 rfl ?_
        refine go_ild_3_2 rfl ?_
        refine go_call2 rfl (sp_isUp d s c hS w (by omega)) (Nat.le_of_ble_eq_true rfl) (qS_v hS) ?_
        refine go_ifeq rfl (fun e2 => ?_) (fun e2 => ?_)
        · refine go_inc_3_2 rfl rfl ?_
          refine go_goto rfl ?_
          rw [nI_1, qx_unset (p := qs_on (qs_so s a)) (k := w) (qB_0.mp e2)]
          exact ih (w + 1) (by omega)
        · have h2 : qs_on (qs_so s a) w = true := Classical.byContradiction fun z => e2 (qB_f z)
          refine go_ild_3_1 rfl ?_
          refine go_c rfl ?_
          refine go_ild_3_2 rfl ?_
          refine go_ishl rfl ?_
          refine go_ior rfl ?_
          rw [qx_set (p := qs_on (qs_so s a)) (by omega) h2]
          refine go_ist_3_1 rfl rfl ?_
          refine go_inc_3_2 rfl rfl ?_
          refine go_goto rfl ?_
          rw [nI_1]
          exact ih (w + 1) (by omega)
  refine (en_54 (d + 1) a _).trans ?_
  refine go_c rfl ?_
  refine go_ist_3_1 rfl rfl ?_
  refine go_c rfl ?_
  refine go_ist_3_2 rfl rfl ?_
  exact loop 8 0 (by omega)
/-- at which wires calls come out: bit by bit as the rows say -/
def qs_at (f : Nat → Int32) : Nat → Int32
  | 0 => 0
  | w + 1 => if qs_on f w = true then qs_at f w ||| (1 : Int32) <<< (f (6 + w) &&& 31) else qs_at f w
theorem sp_wiresReached (d : Nat) (s : qb_M) (c : Nat × Nat) {a : Nat} (hS : qS_sh a) : qe (d + 2) 55 [.ref a] (qb_hp s, 149, c) = some (some (.int (qs_at (qs_so s a) 8)), (qb_hp s, 149, c)) := by
  have loop : ∀ (n w : Nat), w + n = 8 → qa_lm (qe (d + 1)) (qa_cd qc_55) (4, [.ref a, .int (qs_at (qs_so s a) w), .int (nI w)], [], (qb_hp s, 149, c)) = some (some (.int (qs_at (qs_so s a) 8)), (qb_hp s, 149, c)) := by
    intro n
    induction n with
    | zero =>
      intro w hw
      have hw : w = 8 := by omega
      subst hw
      refine go_ild_3_2 rfl ?_
      refine go_c rfl ?_
      refine go_icge rfl (fun e => ?_) (fun e => ?_)
      · refine go_ild_3_1 rfl ?_
        exact fin_i rfl rfl (rfl)
      · exact absurd (by decide) e
    | succ n ih =>
      intro w hw
      have ih := ih (w + 1) (by omega)
      unfold qs_at at ih
      refine go_ild_3_2 rfl ?_
      refine go_c rfl ?_
      refine go_icge rfl (fun e => ?_) (fun e => ?_)
      · exact absurd e (nI_ge (b := 8) (by omega) (by omega))
      · refine go_ald_3_0 rfl ?_
        refine go_ild_3_2 rfl ?_
        refine go_call2 rfl (sp_isUp d s c hS w (by omega)) (Nat.le_of_ble_eq_true rfl) (qS_v hS) ?_
        refine go_ifeq rfl (fun e2 => ?_) (fun e2 => ?_)
        · rw [if_neg (qB_0.mp e2)] at ih
          refine go_inc_3_2 rfl rfl ?_
          refine go_goto rfl ?_
          rw [nI_1]
          exact ih
        · have h2 : qs_on (qs_so s a) w = true := Classical.byContradiction fun z => e2 (qB_f z)
          rw [if_pos h2, qs_so_o (by omega)] at ih
          refine go_ild_3_1 rfl ?_
          refine go_c rfl ?_
          refine go_ald_3_0 rfl ?_
          refine go_getr rfl (qS_f hS rfl) ?_
          refine go_ild_3_2 rfl ?_
          refine go_iald (j := w) rfl (hS.2.1.1) (rfl) (by omega) ?_
          refine go_ishl rfl ?_
          refine go_ior rfl ?_
          refine go_ist_3_1 rfl rfl ?_
          refine go_inc_3_2 rfl rfl ?_
          refine go_goto rfl ?_
          rw [nI_1]
          exact ih
  refine (en_55 (d + 1) a _).trans ?_
  refine go_c rfl ?_
  refine go_ist_3_1 rfl rfl ?_
  refine go_c rfl ?_
  refine go_ist_3_2 rfl rfl ?_
  exact loop 8 0 (by omega)
/-! the component's plan, and ways through it -/
def qP_pl (s : qb_M) (a nw nm : Nat) (lo hi : Nat → Nat) : Prop := s.1 a 5 = nI nw ∧ s.1 a 6 = nI nm ∧ (2 ≤ nw ∧ nw ≤ 8 ∧ nm ≤ 10) ∧ ∀ k, k < nm → s.1 (a + 1) k = nI (lo k) ∧ s.1 (a + 2) k = nI (hi k) ∧ lo k < hi k ∧ hi k < nw
theorem qP_pl.ok {s : qb_M} {a nw nm : Nat} {lo hi : Nat → Nat} (h : qP_pl s a nw nm lo hi) : qm_ok nw nm lo hi := ⟨h.2.2.1, fun k hk => (h.2.2.2 k hk).2.2⟩
theorem sp_otherWire (d : Nat) (s : qb_M) (c : Nat × Nat) {nw nm : Nat} {lo hi : Nat → Nat} (hp : qP_pl s 67 nw nm lo hi) (k w : Nat) (hk : k < nm) (hw : w < 8) : qe (d + 1) 51 [.ref 125, .int (nI k), .int (nI w)] (qb_hp s, 149, c) = some (some (.int (nI (qm_bh lo hi true k w))), (qb_hp s, 149, c)) := by
  obtain ⟨p1, p2, ⟨p3, p4, p5⟩, p6⟩ := hp
  obtain ⟨q1, q2, q3, q4⟩ := p6 k hk
  refine (en_51 d 125 (nI k) (nI w) _).trans ?_
  refine go_ild_3_2 rfl ?_
  refine go_ald_3_0 rfl ?_
  refine go_getr rfl ⟨_, rfl, rfl, by decide, by decide⟩ ?_
  refine go_getr rfl ⟨_, rfl, rfl, by decide, by decide⟩ ?_
  refine go_ild_3_1 rfl ?_
  refine go_iald (j := k) rfl (⟨rfl, by decide, by decide, by decide⟩) (rfl) (by omega) ?_
  rw [q1]
  refine go_icne rfl (fun e => ?_) (fun e => ?_)
  · refine go_ald_3_0 rfl ?_
    refine go_getr rfl ⟨_, rfl, rfl, by decide, by decide⟩ ?_
    refine go_getr rfl ⟨_, rfl, rfl, by decide, by decide⟩ ?_
    refine go_ild_3_1 rfl ?_
    refine go_iald (j := k) rfl (⟨rfl, by decide, by decide, by decide⟩) (rfl) (by omega) ?_
    rw [q2]
    exact fin_i rfl rfl (qR_i (by rw [qm_bh, if_pos rfl, if_pos ((nI_eq (by omega) (by omega)).mp e)]))
  · have e' : ¬ w = lo k := fun z => e (by rw [z])
    refine go_ild_3_2 rfl ?_
    refine go_ald_3_0 rfl ?_
    refine go_getr rfl ⟨_, rfl, rfl, by decide, by decide⟩ ?_
    refine go_getr rfl ⟨_, rfl, rfl, by decide, by decide⟩ ?_
    refine go_ild_3_1 rfl ?_
    refine go_iald (j := k) rfl (⟨rfl, by decide, by decide, by decide⟩) (rfl) (by omega) ?_
    rw [q2]
    refine go_icne rfl (fun e2 => ?_) (fun e2 => ?_)
    · refine go_ald_3_0 rfl ?_
      refine go_getr rfl ⟨_, rfl, rfl, by decide, by decide⟩ ?_
      refine go_getr rfl ⟨_, rfl, rfl, by decide, by decide⟩ ?_
      refine go_ild_3_1 rfl ?_
      refine go_iald (j := k) rfl (⟨rfl, by decide, by decide, by decide⟩) (rfl) (by omega) ?_
      refine go_goto rfl ?_
      rw [q1]
      exact fin_i rfl rfl (qR_i (by rw [qm_bh, if_pos rfl, if_neg e', if_pos ((nI_eq (by omega) (by omega)).mp e2)]))
    · refine go_ild_3_2 rfl ?_
      exact fin_i rfl rfl (qR_i (by rw [qm_bh, if_pos rfl, if_neg e', if_neg (fun z => e2 (by rw [z]))]))
theorem qx_bit0 {X k : Nat} : nI (X / 2 ^ k % 2) = 0 ↔ ¬ X.testBit k = true := by
  rw [Nat.testBit_eq_decide_div_mod_eq, decide_eq_true_eq, show (0 : Int32) = nI 0 from rfl, nI_eq (by omega) (by decide)]
  omega
theorem sp_wireBehind (d : Nat) (s : qb_M) (c : Nat × Nat) {nw nm : Nat} {lo hi : Nat → Nat} (hp : qP_pl s 67 nw nm lo hi) (X i m : Nat) (hX : X < 1024) (hi0 : i < nw) (hm : m ≤ nm) : qe (d + 2) 50 [.ref 125, .int (nI X), .int (nI i), .int (nI m)] (qb_hp s, 149, c) = some (some (.int (nI (qm_wr lo hi X i m))), (qb_hp s, 149, c)) := by
  have hok := hp.ok
  obtain ⟨p1, p2, ⟨p3, p4, p5⟩, p6⟩ := id hp
  have loop : ∀ (n k : Nat), k + n = m → qa_lm (qe (d + 1)) (qa_cd qc_50) (6, [.ref 125, .int (nI X), .int (nI i), .int (nI m), .int (nI (qm_wr lo hi X i k)), .int (nI k)], [], (qb_hp s, 149, c)) = some (some (.int (nI (qm_wr lo hi X i m))), (qb_hp s, 149, c)) := by
    intro n
    induction n with
    | zero =>
      intro k hk
      have hk : k = m := by omega
      subst hk
      refine go_ild_6_5 rfl ?_
      refine go_ild_6_3 rfl ?_
      refine go_icge rfl (fun e => ?_) (fun e => ?_)
      · refine go_ild_6_4 rfl ?_
        exact fin_i rfl rfl (rfl)
      · exact absurd (Int32.le_refl _) e
    | succ n ih =>
      intro k hk
      have hlt := qm_wr_lt hok X hi0 k (by omega)
      refine go_ild_6_5 rfl ?_
      refine go_ild_6_3 rfl ?_
      refine go_icge rfl (fun e => ?_) (fun e => ?_)
      · exact absurd e (nI_ge (by omega) (by omega))
      · refine go_ild_6_5 rfl ?_
        refine go_ald_6_0 rfl ?_
        refine go_getr rfl ⟨_, rfl, rfl, by decide, by decide⟩ ?_
        refine go_geti rfl ⟨_, rfl, rfl, by decide, by decide⟩ ?_
        rw [p2]
        refine go_icge rfl (fun e1 => ?_) (fun e1 => ?_)
        · exact absurd e1 (nI_ge (by omega) (by omega))
        · refine go_ild_6_1 rfl ?_
          refine go_ild_6_5 rfl ?_
          refine go_ishr rfl ?_
          refine go_c rfl ?_
          refine go_iand rfl ?_
          rw [qx_bit (by omega) (by omega)]
          refine go_ifeq rfl (fun e2 => ?_) (fun e2 => ?_)
          · refine go_inc_6_5 rfl rfl ?_
            refine go_goto rfl ?_
            rw [nI_1]
            have := ih (k + 1) (by omega)
            have e3 : qm_wr lo hi X i (k + 1) = qm_wr lo hi X i k := by show qm_bh lo hi (X.testBit k) k _ = _; rw [qm_bh, if_neg (qx_bit0.mp e2)]
            rw [e3] at this
            exact this
          · have hb : X.testBit k = true := Classical.byContradiction fun z => e2 (qx_bit0.mpr z)
            refine go_ald_6_0 rfl ?_
            refine go_ild_6_5 rfl ?_
            refine go_ild_6_4 rfl ?_
            refine go_call3 rfl (sp_otherWire d s c hp k _ (by omega) (by omega)) (Nat.le_of_ble_eq_true rfl) (qb_qv rfl (by decide) (by decide)) ?_
            refine go_ist_6_4 rfl rfl ?_
            refine go_inc_6_5 rfl rfl ?_
            refine go_goto rfl ?_
            rw [nI_1]
            have := ih (k + 1) (by omega)
            have e3 : qm_wr lo hi X i (k + 1) = qm_bh lo hi true k (qm_wr lo hi X i k) := by show qm_bh lo hi (X.testBit k) k _ = _; rw [hb]
            rw [e3] at this
            exact this
  refine (en_50 (d + 1) 125 (nI X) (nI i) (nI m) _).trans ?_
  refine go_ild_6_2 rfl ?_
  refine go_ist_6_4 rfl rfl ?_
  refine go_c rfl ?_
  refine go_ist_6_5 rfl rfl ?_
  exact loop m 0 (by omega)
theorem sp_endOf (d : Nat) (s : qb_M) (c : Nat × Nat) {nw nm : Nat} {lo hi : Nat → Nat} (hp : qP_pl s 67 nw nm lo hi) (X i : Nat) (hX : X < 1024) (hi0 : i < nw) : qe (d + 3) 49 [.ref 125, .int (nI X), .int (nI i)] (qb_hp s, 149, c) = some (some (.int (nI (qm_wr lo hi X i nm))), (qb_hp s, 149, c)) := by
  obtain ⟨p1, p2, ⟨p3, p4, p5⟩, p6⟩ := id hp
  refine (en_49 (d + 2) 125 (nI X) (nI i) _).trans ?_
  refine go_ald_3_0 rfl ?_
  refine go_ild_3_1 rfl ?_
  refine go_ild_3_2 rfl ?_
  refine go_ald_3_0 rfl ?_
  refine go_getr rfl ⟨_, rfl, rfl, by decide, by decide⟩ ?_
  refine go_geti rfl ⟨_, rfl, rfl, by decide, by decide⟩ ?_
  rw [p2]
  refine go_call4 rfl (sp_wireBehind d s c hp X i nm hX hi0 (Nat.le_refl _)) (Nat.le_of_ble_eq_true rfl) (qb_qv rfl (by decide) (by decide)) ?_
  exact fin_i rfl rfl (rfl)
theorem sp_switchesOf (d : Nat) (s : qb_M) (c : Nat × Nat) {nw nm : Nat} {lo hi : Nat → Nat} (hp : qP_pl s 67 nw nm lo hi) (X i : Nat) (hX : X < 1024) (hi0 : i < nw) : qe (d + 2) 63 [.ref 125, .int (nI X), .int (nI i)] (qb_hp s, 149, c) = some (some (.int (nI (qm_ac (qm_th lo hi X i) nm))), (qb_hp s, 149, c)) := by
  have hok := hp.ok
  obtain ⟨p1, p2, ⟨p3, p4, p5⟩, p6⟩ := id hp
  have loop : ∀ (n k : Nat), k + n = nm → qa_lm (qe (d + 1)) (qa_cd qc_63) (8, [.ref 125, .int (nI X), .int (nI i), .int (nI (qm_ac (qm_th lo hi X i) k)), .int (nI (qm_wr lo hi X i k)), .int (nI k)], [], (qb_hp s, 149, c)) = some (some (.int (nI (qm_ac (qm_th lo hi X i) nm))), (qb_hp s, 149, c)) := by
    intro n
    induction n with
    | zero =>
      intro k hk
      have hk : k = nm := by omega
      subst hk
      refine go_ild_6_5 rfl ?_
      refine go_ald_6_0 rfl ?_
      refine go_getr rfl ⟨_, rfl, rfl, by decide, by decide⟩ ?_
      refine go_geti rfl ⟨_, rfl, rfl, by decide, by decide⟩ ?_
      rw [p2]
      refine go_icge rfl (fun e => ?_) (fun e => ?_)
      · refine go_ild_6_3 rfl ?_
        exact fin_i rfl rfl (rfl)
      · exact absurd (Int32.le_refl _) e
    | succ n ih =>
      intro k hk
      have hlt := qm_wr_lt hok X hi0 k (by omega)
      obtain ⟨q1, q2, q3, q4⟩ := p6 k (by omega)
      have ih := ih (k + 1) (by omega)
      -- behind the bit: the wire goes on
      have tail : (qm_wr lo hi X i k = lo k ∨ qm_wr lo hi X i k = hi k) → qa_lm (qe (d + 1)) (qa_cd qc_63) (50, [.ref 125, .int (nI X), .int (nI i), .int (nI (qm_ac (qm_th lo hi X i) k)), .int (nI (qm_wr lo hi X i k)), .int (nI k)], [], (qb_hp s, 149, c)) = some (some (.int (nI (qm_ac (qm_th lo hi X i) nm))), (qb_hp s, 149, c)) := by
        intro ht
        refine go_ild_6_3 rfl ?_
        refine go_c rfl ?_
        refine go_ild_6_5 rfl ?_
        refine go_ishl rfl ?_
        refine go_ior rfl ?_
        rw [qx_set (p := qm_th lo hi X i) (by omega) (decide_eq_true ht)]
        refine go_ist_6_3 rfl rfl ?_
        refine go_ild_6_1 rfl ?_
        refine go_ild_6_5 rfl ?_
        refine go_ishr rfl ?_
        refine go_c rfl ?_
        refine go_iand rfl ?_
        rw [qx_bit (by omega) (by omega)]
        refine go_ifeq rfl (fun e2 => ?_) (fun e2 => ?_)
        · refine go_inc_6_5 rfl rfl ?_
          refine go_goto rfl ?_
          rw [nI_1]
          have e3 : qm_wr lo hi X i (k + 1) = qm_wr lo hi X i k := by show qm_bh lo hi (X.testBit k) k _ = _; rw [qm_bh, if_neg (qx_bit0.mp e2)]
          rw [e3] at ih
          exact ih
        · have hb : X.testBit k = true := Classical.byContradiction fun z => e2 (qx_bit0.mpr z)
          refine go_ald_6_0 rfl ?_
          refine go_ild_6_5 rfl ?_
          refine go_ild_6_4 rfl ?_
          refine go_call3 rfl (sp_otherWire d s c hp k _ (by omega) (by omega)) (Nat.le_of_ble_eq_true rfl) (qb_qv rfl (by decide) (by decide)) ?_
          refine go_ist_6_4 rfl rfl ?_
          refine go_inc_6_5 rfl rfl ?_
          refine go_goto rfl ?_
          rw [nI_1]
          have e3 : qm_wr lo hi X i (k + 1) = qm_bh lo hi true k (qm_wr lo hi X i k) := by show qm_bh lo hi (X.testBit k) k _ = _; rw [hb]
          rw [e3] at ih
          exact ih
      refine go_ild_6_5 rfl ?_
      refine go_ald_6_0 rfl ?_
      refine go_getr rfl ⟨_, rfl, rfl, by decide, by decide⟩ ?_
      refine go_geti rfl ⟨_, rfl, rfl, by decide, by decide⟩ ?_
      rw [p2]
      refine go_icge rfl (fun e => ?_) (fun e => ?_)
      · exact absurd e (nI_ge (by omega) (by omega))
      · refine go_ild_6_4 rfl ?_
        refine go_ald_6_0 rfl ?_
        refine go_getr rfl ⟨_, rfl, rfl, by decide, by decide⟩ ?_
        refine go_getr rfl ⟨_, rfl, rfl, by decide, by decide⟩ ?_
        refine go_ild_6_5 rfl ?_
        refine go_iald (j := k) rfl (⟨rfl, by decide, by decide, by decide⟩) (rfl) (by omega) ?_
        rw [q1]
        refine go_iceq rfl (fun e1 => ?_) (fun e1 => ?_)
        · exact tail (Or.inl ((nI_eq (by omega) (by omega)).mp e1))
        · refine go_ild_6_4 rfl ?_
          refine go_ald_6_0 rfl ?_
          refine go_getr rfl ⟨_, rfl, rfl, by decide, by decide⟩ ?_
          refine go_getr rfl ⟨_, rfl, rfl, by decide, by decide⟩ ?_
          refine go_ild_6_5 rfl ?_
          refine go_iald (j := k) rfl (⟨rfl, by decide, by decide, by decide⟩) (rfl) (by omega) ?_
          rw [q2]
          refine go_icne rfl (fun e2 => ?_) (fun e2 => ?_)
          · exact tail (Or.inr ((nI_eq (by omega) (by omega)).mp e2))
          · have hno : ¬ (qm_wr lo hi X i k = lo k ∨ qm_wr lo hi X i k = hi k) := fun q => q.elim (fun z => e1 (by rw [z])) (fun z => e2 (by rw [z]))
            refine go_inc_6_5 rfl rfl ?_
            refine go_goto rfl ?_
            rw [nI_1, qx_unset (p := qm_th lo hi X i) (k := k) (fun z => hno (of_decide_eq_true z))]
            have e3 : qm_wr lo hi X i (k + 1) = qm_wr lo hi X i k := by
              show qm_bh lo hi (X.testBit k) k _ = _
              unfold qm_bh
              split
              · rw [if_neg (fun z => hno (Or.inl z)), if_neg (fun z => hno (Or.inr z))]
              · rfl
            rw [e3] at ih
            exact ih
  refine (en_63 (d + 1) 125 (nI X) (nI i) _).trans ?_
  refine go_c rfl ?_
  refine go_ist_6_3 rfl rfl ?_
  refine go_ild_6_2 rfl ?_
  refine go_ist_6_4 rfl rfl ?_
  refine go_c rfl ?_
  refine go_ist_6_5 rfl rfl ?_
  exact loop nm 0 (by omega)
