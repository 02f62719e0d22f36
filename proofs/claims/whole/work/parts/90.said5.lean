/-! said, in both -/
theorem sa_bcp : ∀ N k a, a < 2 ^ k → k < N → qm_bc N (a + 2 ^ k) = qm_bc N a + 1
  | 0, _, _, _, h => absurd h (Nat.not_lt_zero _)
  | N + 1, 0, a, ha, _ => by
    have : a = 0 := by omega
    subst this
    show (0 + 1) % 2 + qm_bc N ((0 + 1) / 2) = 0 % 2 + qm_bc N (0 / 2) + 1
    rw [show (0 + 1) / 2 = 0 / 2 from rfl]
    omega
  | N + 1, k + 1, a, ha, h => by
    have := sa_bcp N k (a / 2) (by rw [Nat.pow_succ] at ha; omega) (by omega)
    show (a + 2 ^ (k + 1)) % 2 + qm_bc N ((a + 2 ^ (k + 1)) / 2) = a % 2 + qm_bc N (a / 2) + 1
    rw [show (a + 2 ^ (k + 1)) / 2 = a / 2 + 2 ^ k by rw [Nat.pow_succ]; omega, this, show (a + 2 ^ (k + 1)) % 2 = a % 2 by rw [Nat.pow_succ]; omega]
    omega
theorem sa_bca (p : Nat → Bool) : ∀ n, n ≤ 32 → qm_bc 32 (qm_ac p n) = fa_cnt p n
  | 0, _ => show qm_bc 32 0 = 0 by decide
  | n + 1, h => by
    have ih := sa_bca p n (by omega)
    show qm_bc 32 (qm_ac p n + (if p n = true then 2 ^ n else 0)) = _
    by_cases hp : p n = true
    · rw [if_pos hp, sa_bcp 32 n _ (qm_ac_lt p n) (by omega), ih, fa_cnt_yes hp]
    · rw [if_neg hp, Nat.add_zero, ih, fa_cnt_no (eq_false_of_ne_true hp)]
def sa_f (p : Nat → Bool) (x b : Int32) : Nat → Nat → Int32
  | 0, _ => b
  | n + 1, k => if p k = true ∧ nI (fa_cnt p k) = x then nI k else sa_f p x b n (k + 1)
theorem sa_f_no {p : Nat → Bool} {x b : Int32} (h : ∀ k, k ≤ 10 → ¬ nI (fa_cnt p k) = x) : ∀ n k, k + n ≤ 10 → sa_f p x b n k = b
  | 0, _, _ => rfl
  | n + 1, k, hk => by
    show (if p k = true ∧ nI (fa_cnt p k) = x then nI k else sa_f p x b n (k + 1)) = b
    rw [if_neg (fun z => h k (by omega) z.2)]
    exact sa_f_no h n (k + 1) (by omega)
theorem sp_switchesSaid (d : Nat) (c : Nat × Nat) {s : qb_M} {nw nm ns : Nat} {lo hi se : Nat → Nat} {X J L D top : Nat} (hS : sa_S s nw nm ns lo hi se X J L) (hE : qE s 78 194 0 ns D 0 L top) (e : Nat) : ∃ p t, (∀ sw, sw < nm → ∀ m : qb_M, m.1 194 = s.1 194 → qe (e + 5 + D) 289 [.ref 192, .int (nI top), .int (nI sw)] (qb_hp (m), 149, c) = some (some (.int (qB (p sw = true))), (qb_hp (m), 149, c))) ∧ qe (d + 6) 153 [.ref 78, .ref 67, .ref 73, .ref 125] (qb_hp (s), 149, c) = some (some (.int (nI (qm_ac p nm))), (qb_hp (t), 149, c)) ∧ qG (fun x k => x = 82) s t := by
  obtain ⟨p, q1, q2⟩ := sa_ev d e c hS D 0 L top (Nat.le_refl L) hE
  obtain ⟨t, r1, r2, r3⟩ := q2 0 s (Nat.le_refl 0) qG.rf
  obtain ⟨hp, hpm, ⟨hns, hns5⟩, hse, ⟨hX, hXm, hX2⟩, ⟨hJ, hJm, hJ2⟩, hR, hL, hL4⟩ := hS
  have p5 := hp.2.2.1.2.2
  refine ⟨p, t, q1, ?_, r3.mo (fun x k h => h.1)⟩
  refine (en_153 (d + 5) 78 67 73 125 _).trans ?_
  refine go_c rfl ?_
  refine go_ald_8_1 rfl ?_
  refine go_geti rfl ⟨_, rfl, rfl, by decide, by decide⟩ ?_
  rw [hp.2.1]
  refine go_ishl rfl ?_
  refine go_c rfl ?_
  refine go_isub rfl ?_
  rw [qx_all (by omega)]
  refine go_ist_8_4 rfl rfl ?_
  refine go_c rfl ?_
  refine go_ist_8_5 rfl rfl ?_
  refine go_c rfl ?_
  refine go_ist_8_6 rfl rfl ?_
  refine r1 _ (fun l7 => ?_) _
  refine go_ild_8_6 rfl ?_
  refine go_ald_8_0 rfl ?_
  refine go_geti rfl ⟨_, rfl, rfl, by decide, by decide⟩ ?_
  rw [show t.1 78 4 = nI L from (r3.i (by omega)).trans hL]
  refine go_icge rfl (fun e1 => ?_) (fun e1 => ?_)
  · refine go_ild_8_5 rfl ?_
    refine go_c rfl ?_
    refine go_iclt rfl (fun e2 => ?_) (fun e2 => ?_)
    · exact absurd e2 (by decide)
    · refine go_ald_8_0 rfl ?_
      refine go_getr rfl ⟨_, rfl, rfl, by decide, by decide⟩ ?_
      refine go_c rfl ?_
      refine go_iald (j := 0) rfl (⟨rfl, by decide, by decide, by decide⟩) (rfl) (by omega) ?_
      rw [r2]
      refine go_goto rfl ?_
      exact fin_i rfl rfl rfl
  · exact absurd (Int32.le_refl _) e1
theorem qT_said (d : Nat) (x : Int32) : qT (d + 70) 152 288 [.int x] := fun s c hZ => by
  obtain ⟨hx0, nw, nm, ns, V, F0, lo, hi, se, h1, h2, h3, h4⟩ := id hZ
  obtain ⟨L, n, w1, w2, w3, w4, w5⟩ := h3
  obtain ⟨hR, H, X, J, Lf, Sh, hI⟩ := id h2
  obtain ⟨-, ⟨hX, hX2⟩, ⟨hJ, hJ2⟩, -⟩ := id hI
  have hw := h1.1
  have h10 : 2 ^ nm ≤ 2 ^ 10 := Nat.pow_le_pow_right (by decide) hw.2.2.1
  rcases w5 with ⟨n0, L0, w6⟩ | ⟨n1, w6, top, D, hD, w7, hE⟩
  · subst n0
    refine ⟨-1, s, qb_ui s 192 0 0, ?_, ?_, hZ.thr 0⟩
    · refine (en_152 (d + 69) 64 x _).trans ?_
      refine go_ald_5_0 rfl ?_
      refine go_getr rfl ⟨_, rfl, rfl, by decide, by decide⟩ ?_
      refine go_geti rfl ⟨_, rfl, rfl, by decide, by decide⟩ ?_
      rw [w3]
      refine go_ifeq rfl (fun e => ?_) (fun e => ?_)
      · refine go_c rfl ?_
        exact fin_i rfl rfl rfl
      · exact absurd rfl e
    · refine (en_288 (d + 69) 192 x _).trans ?_
      refine go_ald_4_0 rfl ?_
      refine go_c rfl ?_
      refine go_puti rfl ⟨_, rfl, rfl, by decide, by decide⟩ rfl rfl ?_
      refine go_ald_4_0 rfl ?_
      refine go_getr rfl ⟨_, rfl, rfl, by decide, by decide⟩ ?_
      refine go_c rfl ?_
      refine go_iald (j := 70) rfl (⟨rfl, by decide, by decide, by decide⟩) (rfl) (by omega) ?_
      rw [show (qb_ui s 192 0 0).1 194 70 = 0 from w6]
      refine go_ifne rfl (fun e => ?_) (fun e => ?_)
      · refine go_c rfl ?_
        exact fin_i rfl rfl rfl
      · exact absurd rfl e
  · have hS : sa_S s nw nm ns lo hi se X J L := ⟨h1.c, h1.m, ⟨h1.2.1.2.2.1, hw.2.2.2.1⟩, fun k hk => ⟨(h1.2.2.2.2 k hk).1, (h1.2.2.2.2 k hk).2.1, by
      have := (h1.2.2.2.2 k hk).2.2.1
      rw [Nat.zero_add] at this
      exact this⟩, ⟨(hR.1 1 (by omega) (by omega)).trans hX, hX, hX2⟩, ⟨(hR.1 2 (by omega) (by omega)).trans hJ, hJ, hJ2⟩, hR, w1, w2⟩
    obtain ⟨p, t, q1, q2, q3⟩ := sp_switchesSaid (d + 63) c hS hE (d + 64 - D)
    rw [show d + 64 - D + 5 + D = d + 69 by omega] at q1
    have hac : qm_ac p nm < 1024 := Nat.lt_of_lt_of_le (qm_ac_lt p nm) h10
    have hft : ∀ k, fa_cnt p k ≤ k := fa_cnt_le p
    -- the reference
    have mod : ∀ v : qb_M, v.1 194 = s.1 194 → qe (d + 70) 288 [.ref 192, .int x] (qb_hp (v), 149, c) = some (some (.int (sa_f p x (if x = -1 then nI (fa_cnt p nm) else -1) nm 0)), (qb_hp (qb_ui v 192 0 0), 149, c)) := fun v hv => by
      have loop : ∀ n k, k + n = nm → qa_lm (qe (d + 69)) (qa_cd qc_288) (21, [.ref 192, .int x, .int (nI (fa_cnt p k)), .int (nI k)], [], (qb_hp (qb_ui v 192 0 0), 149, c)) = some (some (.int (sa_f p x (if x = -1 then nI (fa_cnt p nm) else -1) n k)), (qb_hp (qb_ui v 192 0 0), 149, c)) := by
        intro n
        induction n with
        | zero =>
          intro k hk
          have hk : k = nm := by omega
          subst hk
          refine go_ild_4_3 rfl ?_
          refine go_ald_4_0 rfl ?_
          refine go_getr rfl ⟨_, rfl, rfl, by decide, by decide⟩ ?_
          refine go_c rfl ?_
          refine go_iald (j := 1) rfl (⟨rfl, by decide, by decide, by decide⟩) (rfl) (by omega) ?_
          rw [show (qb_ui v 192 0 0).1 194 1 = nI k from by rw [show (qb_ui v 192 0 0).1 194 = v.1 194 from rfl, hv]; exact h1.2.2.1.2.1]
          refine go_icge rfl (fun e => ?_) (fun e => ?_)
          · refine go_ild_4_1 rfl ?_
            refine go_c rfl ?_
            refine go_icne rfl (fun e2 => ?_) (fun e2 => ?_)
            · rw [show sa_f p x (if x = -1 then nI (fa_cnt p k) else -1) 0 k = nI (fa_cnt p k) from if_pos e2]
              refine go_ild_4_2 rfl ?_
              refine go_goto rfl ?_
              exact fin_i rfl rfl rfl
            · rw [show sa_f p x (if x = -1 then nI (fa_cnt p k) else -1) 0 k = -1 from if_neg e2]
              refine go_c rfl ?_
              exact fin_i rfl rfl rfl
          · exact absurd (Int32.le_refl _) e
        | succ n ih =>
          intro k hk
          have ih := ih (k + 1) (by omega)
          have hh := q1 k (by omega) (qb_ui v 192 0 0) hv
          have e71 : (qb_ui v 192 0 0).1 194 71 = nI top := by
            rw [show (qb_ui v 192 0 0).1 194 = v.1 194 from rfl, hv]
            exact w7
          refine go_ild_4_3 rfl ?_
          refine go_ald_4_0 rfl ?_
          refine go_getr rfl ⟨_, rfl, rfl, by decide, by decide⟩ ?_
          refine go_c rfl ?_
          refine go_iald (j := 1) rfl (⟨rfl, by decide, by decide, by decide⟩) (rfl) (by omega) ?_
          rw [show (qb_ui v 192 0 0).1 194 1 = nI nm from by rw [show (qb_ui v 192 0 0).1 194 = v.1 194 from rfl, hv]; exact h1.2.2.1.2.1]
          refine go_icge rfl (fun e => ?_) (fun e => ?_)
          · exact absurd e (nI_ge (by omega) (by omega))
          · refine go_ald_4_0 rfl ?_
            refine go_ald_4_0 rfl ?_
            refine go_getr rfl ⟨_, rfl, rfl, by decide, by decide⟩ ?_
            refine go_c rfl ?_
            refine go_iald (j := 71) rfl (⟨rfl, by decide, by decide, by decide⟩) (rfl) (by omega) ?_
            rw [e71]
            refine go_ild_4_3 rfl ?_
            refine go_call3 rfl (hh) (Nat.le_of_ble_eq_true rfl) (qb_qv rfl (by decide) (by decide)) ?_
            refine go_ifne rfl (fun e2 => ?_) (fun e2 => ?_)
            · have hp := qB_0.mp e2
              rw [show sa_f p x (if x = -1 then nI (fa_cnt p nm) else -1) (n + 1) k = sa_f p x (if x = -1 then nI (fa_cnt p nm) else -1) n (k + 1) from if_neg (fun z => hp z.1)]
              rw [fa_cnt_no (eq_false_of_ne_true hp)] at ih
              refine go_goto rfl ?_
              refine go_inc_4_3 rfl rfl ?_
              refine go_goto rfl ?_
              rw [nI_1]
              exact ih
            · have hp : p k = true := Classical.byContradiction fun z => e2 (qB_f z)
              refine go_ild_4_2 rfl ?_
              refine go_ild_4_1 rfl ?_
              refine go_icne rfl (fun e3 => ?_) (fun e3 => ?_)
              · rw [show sa_f p x (if x = -1 then nI (fa_cnt p nm) else -1) (n + 1) k = nI k from if_pos ⟨hp, e3⟩]
                refine go_ild_4_3 rfl ?_
                exact fin_i rfl rfl rfl
              · rw [show sa_f p x (if x = -1 then nI (fa_cnt p nm) else -1) (n + 1) k = sa_f p x (if x = -1 then nI (fa_cnt p nm) else -1) n (k + 1) from if_neg (fun z => e3 z.2)]
                rw [fa_cnt_yes hp] at ih
                refine go_inc_4_2 rfl rfl ?_
                refine go_inc_4_3 rfl rfl ?_
                refine go_goto rfl ?_
                rw [nI_1, nI_1]
                exact ih
      refine (en_288 (d + 69) 192 x _).trans ?_
      refine go_ald_4_0 rfl ?_
      refine go_c rfl ?_
      refine go_puti rfl ⟨_, rfl, rfl, by decide, by decide⟩ rfl rfl ?_
      refine go_ald_4_0 rfl ?_
      refine go_getr rfl ⟨_, rfl, rfl, by decide, by decide⟩ ?_
      refine go_c rfl ?_
      refine go_iald (j := 70) rfl (⟨rfl, by decide, by decide, by decide⟩) (rfl) (by omega) ?_
      rw [show (qb_ui v 192 0 0).1 194 70 = 1 from by rw [show (qb_ui v 192 0 0).1 194 = v.1 194 from rfl, hv]; exact w6]
      refine go_ifne rfl (fun e => ?_) (fun e => ?_)
      · exact absurd e (by decide)
      · refine go_c rfl ?_
        refine go_ist_4_2 rfl rfl ?_
        refine go_c rfl ?_
        refine go_ist_4_3 rfl rfl ?_
        exact loop nm 0 (by omega)
    have hn0 : ¬ s.1 78 5 = 0 := by
      rw [w3]
      exact fun z => absurd ((nI_eq (b := 0) (by omega) (by decide)).mp z) (by omega)
    have hZt : qZ (qb_ui t 192 0 0) := (hZ.mv q3 (fun x k hx => by unfold qZ_no qZx_no at hx; omega)).thr 0
    by_cases hx1 : -1 ≤ x
    · have enC : ∀ R, qa_lm (qe (d + 69)) (qa_cd qc_152) (36, [.ref 64, .int x, .retAddr 0, .retAddr 0, .retAddr 0], [.int (nI (qm_ac p nm))], (qb_hp (t), 149, c)) = R → qe (d + 70) 152 [.ref 64, .int x] (qb_hp (s), 149, c) = R := fun R hR => by
        refine (en_152 (d + 69) 64 x _).trans ?_
        refine go_ald_5_0 rfl ?_
        refine go_getr rfl ⟨_, rfl, rfl, by decide, by decide⟩ ?_
        refine go_geti rfl ⟨_, rfl, rfl, by decide, by decide⟩ ?_
        refine go_ifeq rfl (fun e => ?_) (fun e => ?_)
        · exact absurd e hn0
        · refine go_ild_5_1 rfl ?_
          refine go_c rfl ?_
          refine go_icge rfl (fun e2 => ?_) (fun e2 => ?_)
          · refine go_ald_5_0 rfl ?_
            refine go_getr rfl ⟨_, rfl, rfl, by decide, by decide⟩ ?_
            refine go_ald_5_0 rfl ?_
            refine go_getr rfl ⟨_, rfl, rfl, by decide, by decide⟩ ?_
            refine go_ald_5_0 rfl ?_
            refine go_getr rfl ⟨_, rfl, rfl, by decide, by decide⟩ ?_
            refine go_ald_5_0 rfl ?_
            refine go_getr rfl ⟨_, rfl, rfl, by decide, by decide⟩ ?_
            refine go_call4 rfl (q2) (Nat.le_of_ble_eq_true rfl) (qb_qv rfl (by decide) (by decide)) ?_
            exact hR
          · exact absurd hx1 e2
      by_cases hxm : x = -1
      · refine ⟨nI (fa_cnt p nm), t, qb_ui t 192 0 0, enC _ ?_, ?_, hZt⟩
        · refine go_ist_5_2 rfl rfl ?_
          refine go_ild_5_1 rfl ?_
          refine go_c rfl ?_
          refine go_icne rfl (fun e => ?_) (fun e => ?_)
          · refine go_ild_5_2 rfl ?_
            refine go_call1 rfl (sp_bitCount (d + 68) _ hac _) (Nat.le_of_ble_eq_true rfl) rfl ?_
            rw [sa_bca p nm (by omega)]
            exact fin_i rfl rfl rfl
          · exact absurd hxm e
        · rw [mod t (funext fun k => q3.i (by omega)), sa_f_no (fun k hk z => absurd (z.trans hxm) (nI_m1 (by have := hft k; omega))) nm 0 (by omega), if_pos hxm]
      · refine ⟨sa_f p x (-1) nm 0, t, qb_ui t 192 0 0, enC _ ?_, ?_, hZt⟩
        · have loop : ∀ n k, k + n = nm → qa_lm (qe (d + 69)) (qa_cd qc_152) (52, [.ref 64, .int x, .int (nI (qm_ac p nm)), .int (nI (fa_cnt p k)), .int (nI k)], [], (qb_hp (t), 149, c)) = some (some (.int (sa_f p x (-1) n k)), (qb_hp (t), 149, c)) := by
            intro n
            induction n with
            | zero =>
              intro k hk
              have hk : k = nm := by omega
              subst hk
              refine go_ild_5_4 rfl ?_
              refine go_ald_5_0 rfl ?_
              refine go_getr rfl ⟨_, rfl, rfl, by decide, by decide⟩ ?_
              refine go_geti rfl ⟨_, rfl, rfl, by decide, by decide⟩ ?_
              rw [show t.1 67 6 = nI k from (q3.i (by omega)).trans h1.2.1.2.1]
              refine go_icge rfl (fun e => ?_) (fun e => ?_)
              · refine go_c rfl ?_
                exact fin_i rfl rfl rfl
              · exact absurd (Int32.le_refl _) e
            | succ n ih =>
              intro k hk
              have ih := ih (k + 1) (by omega)
              have hb : (qm_ac p nm).testBit k = p k := by rw [qm_ac_bit, decide_eq_true (by omega), Bool.true_and]
              refine go_ild_5_4 rfl ?_
              refine go_ald_5_0 rfl ?_
              refine go_getr rfl ⟨_, rfl, rfl, by decide, by decide⟩ ?_
              refine go_geti rfl ⟨_, rfl, rfl, by decide, by decide⟩ ?_
              rw [show t.1 67 6 = nI nm from (q3.i (by omega)).trans h1.2.1.2.1]
              refine go_icge rfl (fun e => ?_) (fun e => ?_)
              · exact absurd e (nI_ge (by omega) (by omega))
              · refine go_ild_5_2 rfl ?_
                refine go_ild_5_4 rfl ?_
                refine go_ishr rfl ?_
                refine go_c rfl ?_
                refine go_iand rfl ?_
                rw [qx_bit (by omega) (by omega)]
                have hb2 := Nat.toNat_testBit (qm_ac p nm) k
                rw [hb] at hb2
                refine go_ifeq rfl (fun e2 => ?_) (fun e2 => ?_)
                · have hp : p k = false := by
                    cases hpk : p k with
                    | false => rfl
                    | true =>
                      rw [← hb2, hpk] at e2
                      exact absurd e2 (by decide)
                  rw [show sa_f p x (-1) (n + 1) k = sa_f p x (-1) n (k + 1) from if_neg (fun z => by rw [hp] at z; exact absurd z.1 (by decide))]
                  rw [fa_cnt_no hp] at ih
                  refine go_inc_5_4 rfl rfl ?_
                  refine go_goto rfl ?_
                  rw [nI_1]
                  exact ih
                · have hp : p k = true := by
                    cases hpk : p k with
                    | true => rfl
                    | false =>
                      rw [← hb2, hpk] at e2
                      exact absurd rfl e2
                  refine go_ild_5_3 rfl ?_
                  refine go_ild_5_1 rfl ?_
                  refine go_icne rfl (fun e3 => ?_) (fun e3 => ?_)
                  · rw [show sa_f p x (-1) (n + 1) k = nI k from if_pos ⟨hp, e3⟩]
                    refine go_ild_5_4 rfl ?_
                    exact fin_i rfl rfl rfl
                  · rw [show sa_f p x (-1) (n + 1) k = sa_f p x (-1) n (k + 1) from if_neg (fun z => e3 z.2)]
                    rw [fa_cnt_yes hp] at ih
                    refine go_inc_5_3 rfl rfl ?_
                    refine go_inc_5_4 rfl rfl ?_
                    refine go_goto rfl ?_
                    rw [nI_1, nI_1]
                    exact ih
          refine go_ist_5_2 rfl rfl ?_
          refine go_ild_5_1 rfl ?_
          refine go_c rfl ?_
          refine go_icne rfl (fun e => ?_) (fun e => ?_)
          · exact absurd e hxm
          · refine go_c rfl ?_
            refine go_ist_5_3 rfl rfl ?_
            refine go_c rfl ?_
            refine go_ist_5_4 rfl rfl ?_
            exact loop nm 0 (by omega)
        · rw [mod t (funext fun k => q3.i (by omega)), if_neg hxm]
    · have hxm : ¬ x = -1 := fun z => hx1 (by rw [z]; exact Int32.le_refl _)
      refine ⟨-1, s, qb_ui s 192 0 0, ?_, ?_, hZ.thr 0⟩
      · refine (en_152 (d + 69) 64 x _).trans ?_
        refine go_ald_5_0 rfl ?_
        refine go_getr rfl ⟨_, rfl, rfl, by decide, by decide⟩ ?_
        refine go_geti rfl ⟨_, rfl, rfl, by decide, by decide⟩ ?_
        refine go_ifeq rfl (fun e => ?_) (fun e => ?_)
        · exact absurd e hn0
        · refine go_ild_5_1 rfl ?_
          refine go_c rfl ?_
          refine go_icge rfl (fun e2 => ?_) (fun e2 => ?_)
          · exact absurd e2 hx1
          · refine go_c rfl ?_
            exact fin_i rfl rfl rfl
      · rw [mod s rfl, if_neg hxm, sa_f_no (fun k hk z => hx1 (by
          rw [← z]
          exact Int32.le_trans (by decide) ((nI_leI (a := 0) (b := fa_cnt p k) (by decide) (by have := hft k; omega)).mpr (by omega)))) nm 0 (by omega)]
