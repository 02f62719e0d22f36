/-! the component's acts on a state -/
theorem qs_so_u4 {s : qb_M} {a : Nat} {v : Int32} : qs_so (qb_ui s a 4 v) a = qs_u (qs_so s a) 0 v := qs_so_uh (k := 0) (by decide)
theorem qs_so_u5 {s : qb_M} {a : Nat} {v : Int32} : qs_so (qb_ui s a 5 v) a = qs_u (qs_so s a) 1 v := qs_so_uh (k := 1) (by decide)
theorem qs_so_u6 {s : qb_M} {a : Nat} {v : Int32} : qs_so (qb_ui s a 6 v) a = qs_u (qs_so s a) 2 v := qs_so_uh (k := 2) (by decide)
theorem qs_so_u7 {s : qb_M} {a : Nat} {v : Int32} : qs_so (qb_ui s a 7 v) a = qs_u (qs_so s a) 3 v := qs_so_uh (k := 3) (by decide)
theorem qs_so_u8 {s : qb_M} {a : Nat} {v : Int32} : qs_so (qb_ui s a 8 v) a = qs_u (qs_so s a) 4 v := qs_so_uh (k := 4) (by decide)
theorem qs_so_u9 {s : qb_M} {a : Nat} {v : Int32} : qs_so (qb_ui s a 9 v) a = qs_u (qs_so s a) 5 v := qs_so_uh (k := 5) (by decide)
theorem qs_so_4 {s : qb_M} {a : Nat} : s.1 a 4 = qs_so s a 0 := rfl
theorem qs_so_5 {s : qb_M} {a : Nat} : s.1 a 5 = qs_so s a 1 := rfl
theorem qs_so_6 {s : qb_M} {a : Nat} : s.1 a 6 = qs_so s a 2 := rfl
theorem qs_so_7 {s : qb_M} {a : Nat} : s.1 a 7 = qs_so s a 3 := rfl
theorem qs_so_8 {s : qb_M} {a : Nat} : s.1 a 8 = qs_so s a 4 := rfl
theorem qs_so_9 {s : qb_M} {a : Nat} : s.1 a 9 = qs_so s a 5 := rfl
theorem sp_setTo (d : Nat) (s : qb_M) (c : Nat × Nat) {a : Nat} (hS : qS_sh a) {X Z : Nat} (hX : s.1 a 5 = nI X) (hX3 : X < 1024) (hZ : Z < 1024) : ∃ t, qe (d + 1) 71 [.ref a, .int (nI Z)] (qb_hp (s), 149, c) = some (none, (qb_hp (t), 149, c)) ∧ qs_so t a = qs_u (qt_tn (X ^^^ Z) (qs_so s a) 10) 1 (nI Z) ∧ qF (fun x => a ≤ x ∧ x < a + 5) s t := by
  have hD : X ^^^ Z < 1024 := Nat.xor_lt_two_pow (n := 10) hX3 hZ
  have loop : ∀ (n k : Nat) (t : qb_M), k + n = 10 → qs_so t a = qt_tn (X ^^^ Z) (qs_so s a) k → qF (fun x => a ≤ x ∧ x < a + 5) s t → ∃ u, qa_lm (qe (d)) (qa_cd qc_71) (2, [.ref a, .int (nI Z), .int (nI k)], [], (qb_hp (t), 149, c)) = some (none, (qb_hp (u), 149, c)) ∧ qs_so u a = qs_u (qt_tn (X ^^^ Z) (qs_so s a) 10) 1 (nI Z) ∧ qF (fun x => a ≤ x ∧ x < a + 5) s u := by
    intro n
    induction n with
    | zero =>
      intro k t hk hv hf
      have hk : k = 10 := by omega
      subst hk
      refine ⟨qb_ui t a 5 (nI Z), ?_, by rw [qs_so_u5, hv], hf.ui ⟨Nat.le_refl _, by omega⟩⟩
      refine go_ild_3_2 rfl ?_
      refine go_c rfl ?_
      refine go_icge rfl (fun e => ?_) (fun e => ?_)
      · refine go_ald_3_0 rfl ?_
        refine go_ild_3_1 rfl ?_
        refine go_puti rfl (qS_f hS rfl) rfl rfl ?_
        exact fin_v rfl rfl
      · exact absurd (by decide) e
    | succ n ih =>
      intro k t hk hv hf
      have hX9 : t.1 a 5 = nI X := by rw [qs_so_5, hv, qt_tn_n (by omega) (by omega)]; exact hX
      have hu : qt_tn (X ^^^ Z) (qs_so s a) (k + 1) = if (X ^^^ Z).testBit k = true then qs_b (qs_b (qt_tn (X ^^^ Z) (qs_so s a) k) (30 + k)) 5 else qt_tn (X ^^^ Z) (qs_so s a) k := rfl
      by_cases hb : (X ^^^ Z).testBit k = true
      · rw [if_pos hb] at hu
        obtain ⟨u, h1, h2⟩ := ih (k + 1) (qb_ui (qb_ui t (a + 4) k (t.1 (a + 4) k + 1)) a 9 ((qb_ui t (a + 4) k (t.1 (a + 4) k + 1)).1 a 9 + 1)) (by omega) (by
          rw [hu, qs_so_u9, qs_so_9, qs_so_ut, ← qs_so_t (k := k), hv]
          rfl) ((hf.ui (by omega)).ui (by omega))
        refine ⟨u, ?_, h2⟩
        refine go_ild_3_2 rfl ?_
        refine go_c rfl ?_
        refine go_icge rfl (fun e => ?_) (fun e => ?_)
        · exact absurd e (nI_ge (b := 10) (by omega) (by omega))
        · refine go_ald_3_0 rfl ?_
          refine go_geti rfl (qS_f hS rfl) ?_
          rw [hX9]
          refine go_ild_3_1 rfl ?_
          refine go_ixor rfl ?_
          refine go_ild_3_2 rfl ?_
          refine go_ishr rfl ?_
          refine go_c rfl ?_
          refine go_iand rfl ?_
          rw [fb_xorI, qx_bit (by omega) (by omega)]
          refine go_ifeq rfl (fun e2 => ?_) (fun e2 => ?_)
          · exact absurd hb (qx_bit0.mp e2)
          · refine go_ald_3_0 rfl ?_
            refine go_getr rfl (qS_f hS rfl) ?_
            refine go_ild_3_2 rfl ?_
            refine go_dup2 rfl ?_
            refine go_iald (j := k) rfl (hS.2.1.2.2.2) (rfl) (by omega) ?_
            refine go_c rfl ?_
            refine go_iadd rfl ?_
            refine go_iast (j := k) rfl (hS.2.1.2.2.2) (rfl) (by omega) ?_
            refine go_ald_3_0 rfl ?_
            refine go_dup_ref rfl ?_
            refine go_geti rfl (qS_f hS rfl) ?_
            refine go_c rfl ?_
            refine go_iadd rfl ?_
            refine go_puti rfl (qS_f hS rfl) rfl rfl ?_
            refine go_inc_3_2 rfl rfl ?_
            refine go_goto rfl ?_
            rw [nI_1]
            exact h1
      · rw [if_neg hb] at hu
        obtain ⟨u, h1, h2⟩ := ih (k + 1) t (by omega) (by rw [hu]; exact hv) hf
        refine ⟨u, ?_, h2⟩
        refine go_ild_3_2 rfl ?_
        refine go_c rfl ?_
        refine go_icge rfl (fun e => ?_) (fun e => ?_)
        · exact absurd e (nI_ge (b := 10) (by omega) (by omega))
        · refine go_ald_3_0 rfl ?_
          refine go_geti rfl (qS_f hS rfl) ?_
          rw [hX9]
          refine go_ild_3_1 rfl ?_
          refine go_ixor rfl ?_
          refine go_ild_3_2 rfl ?_
          refine go_ishr rfl ?_
          refine go_c rfl ?_
          refine go_iand rfl ?_
          rw [fb_xorI, qx_bit (by omega) (by omega)]
          refine go_ifeq rfl (fun e2 => ?_) (fun e2 => ?_)
          · refine go_inc_3_2 rfl rfl ?_
            refine go_goto rfl ?_
            rw [nI_1]
            exact h1
          · exact absurd (qx_bit0.mpr hb) e2
  obtain ⟨t, h1, h2⟩ := loop 10 0 s (by omega) rfl qF.rf
  refine ⟨t, ?_, h2⟩
  refine (en_71 d a (nI Z) _).trans ?_
  refine go_c rfl ?_
  refine go_ist_3_2 rfl rfl ?_
  exact h1
/-- an hour that goes by, as the component has it -/
def qt_p1 (f : Nat → Int32) (w : Nat) : Nat → Int32 := if qs_on f w = true then (if f (14 + w) - 1 ≤ 0 then qs_u (qs_u f (14 + w) (f (14 + w) - 1)) (6 + w) (-1) else qs_u f (14 + w) (f (14 + w) - 1)) else f
def qt_ph (f : Nat → Int32) : Nat → Nat → Int32
  | 0 => f
  | w + 1 => qt_p1 (qt_ph f w) w
theorem sp_passHour (d : Nat) (s : qb_M) (c : Nat × Nat) {a : Nat} (hS : qS_sh a) : ∃ t, qe (d + 2) 79 [.ref a] (qb_hp (s), 149, c) = some (none, (qb_hp (t), 149, c)) ∧ qs_so t a = qs_b (qt_ph (qs_so s a) 8) 0 ∧ qF (fun x => a ≤ x ∧ x < a + 5) s t := by
  have loop : ∀ (n w : Nat) (t : qb_M), w + n = 8 → qs_so t a = qt_ph (qs_so s a) w → qF (fun x => a ≤ x ∧ x < a + 5) s t → ∃ u, qa_lm (qe (d + 1)) (qa_cd qc_79) (2, [.ref a, .int (nI w)], [], (qb_hp (t), 149, c)) = some (none, (qb_hp (u), 149, c)) ∧ qs_so u a = qs_b (qt_ph (qs_so s a) 8) 0 ∧ qF (fun x => a ≤ x ∧ x < a + 5) s u := by
    intro n
    induction n with
    | zero =>
      intro w t hw hv hf
      have hw : w = 8 := by omega
      subst hw
      refine ⟨qb_ui t a 4 (t.1 a 4 + 1), ?_, by rw [qs_so_u4, qs_so_4, hv]; rfl, hf.ui (by omega)⟩
      refine go_ild_2_1 rfl ?_
      refine go_c rfl ?_
      refine go_icge rfl (fun e => ?_) (fun e => ?_)
      · refine go_ald_2_0 rfl ?_
        refine go_dup_ref rfl ?_
        refine go_geti rfl (qS_f hS rfl) ?_
        refine go_c rfl ?_
        refine go_iadd rfl ?_
        refine go_puti rfl (qS_f hS rfl) rfl rfl ?_
        exact fin_v rfl rfl
      · exact absurd (by decide) e
    | succ n ih =>
      intro w t hw hv hf
      have hu : qt_ph (qs_so s a) (w + 1) = qt_p1 (qs_so t a) w := by rw [hv]; rfl
      unfold qt_p1 at hu
      by_cases hon : qs_on (qs_so t a) w = true
      · rw [if_pos hon] at hu
        by_cases hl : qs_so t a (14 + w) - 1 ≤ 0
        · rw [if_pos hl] at hu
          obtain ⟨u, h1, h2⟩ := ih (w + 1) (qb_ui (qb_ui t (a + 2) w (t.1 (a + 2) w - 1)) (a + 1) w (-1)) (by omega) (by rw [hu, qs_so_uo (by omega), qs_so_ul (by omega), ← qs_so_l (w := w) (by omega)]) ((hf.ui (by omega)).ui (by omega))
          refine ⟨u, ?_, h2⟩
          refine go_ild_2_1 rfl ?_
          refine go_c rfl ?_
          refine go_icge rfl (fun e => ?_) (fun e => ?_)
          · exact absurd e (nI_ge (b := 8) (by omega) (by omega))
          · refine go_ald_2_0 rfl ?_
            refine go_ild_2_1 rfl ?_
            refine go_call2 rfl (sp_isUp d t c hS w (by omega)) (Nat.le_of_ble_eq_true rfl) (qS_v hS) ?_
            refine go_ifeq rfl (fun e1 => ?_) (fun e1 => ?_)
            · exact absurd hon (qB_0.mp e1)
            · refine go_ald_2_0 rfl ?_
              refine go_getr rfl (qS_f hS rfl) ?_
              refine go_ild_2_1 rfl ?_
              refine go_dup2 rfl ?_
              refine go_iald (j := w) rfl (hS.2.1.2.1) (rfl) (by omega) ?_
              refine go_c rfl ?_
              refine go_isub rfl ?_
              refine go_iast (j := w) rfl (hS.2.1.2.1) (rfl) (by omega) ?_
              refine go_ald_2_0 rfl ?_
              refine go_getr rfl (qS_f hS rfl) ?_
              refine go_ild_2_1 rfl ?_
              refine go_iald (j := w) rfl (hS.2.1.2.1) (rfl) (by omega) ?_
              rw [qb_ui_1s, ← qs_so_l (s := t) (a := a) (w := w) (by omega)]
              refine go_ifgt rfl (fun e2 => ?_) (fun e2 => ?_)
              · exact absurd hl (Int32.not_le.mpr e2)
              · rw [qs_so_l (s := t) (a := a) (w := w) (by omega)]
                refine go_ald_2_0 rfl ?_
                refine go_getr rfl (qS_f hS rfl) ?_
                refine go_ild_2_1 rfl ?_
                refine go_c rfl ?_
                refine go_iast (j := w) rfl (hS.2.1.1) (rfl) (by omega) ?_
                refine go_inc_2_1 rfl rfl ?_
                refine go_goto rfl ?_
                rw [nI_1]
                exact h1
        · rw [if_neg hl] at hu
          obtain ⟨u, h1, h2⟩ := ih (w + 1) (qb_ui t (a + 2) w (t.1 (a + 2) w - 1)) (by omega) (by rw [hu, qs_so_ul (by omega), ← qs_so_l (w := w) (by omega)]) (hf.ui (by omega))
          refine ⟨u, ?_, h2⟩
          refine go_ild_2_1 rfl ?_
          refine go_c rfl ?_
          refine go_icge rfl (fun e => ?_) (fun e => ?_)
          · exact absurd e (nI_ge (b := 8) (by omega) (by omega))
          · refine go_ald_2_0 rfl ?_
            refine go_ild_2_1 rfl ?_
            refine go_call2 rfl (sp_isUp d t c hS w (by omega)) (Nat.le_of_ble_eq_true rfl) (qS_v hS) ?_
            refine go_ifeq rfl (fun e1 => ?_) (fun e1 => ?_)
            · exact absurd hon (qB_0.mp e1)
            · refine go_ald_2_0 rfl ?_
              refine go_getr rfl (qS_f hS rfl) ?_
              refine go_ild_2_1 rfl ?_
              refine go_dup2 rfl ?_
              refine go_iald (j := w) rfl (hS.2.1.2.1) (rfl) (by omega) ?_
              refine go_c rfl ?_
              refine go_isub rfl ?_
              refine go_iast (j := w) rfl (hS.2.1.2.1) (rfl) (by omega) ?_
              refine go_ald_2_0 rfl ?_
              refine go_getr rfl (qS_f hS rfl) ?_
              refine go_ild_2_1 rfl ?_
              refine go_iald (j := w) rfl (hS.2.1.2.1) (rfl) (by omega) ?_
              rw [qb_ui_1s, ← qs_so_l (s := t) (a := a) (w := w) (by omega)]
              refine go_ifgt rfl (fun e2 => ?_) (fun e2 => ?_)
              · rw [qs_so_l (s := t) (a := a) (w := w) (by omega)]
                refine go_inc_2_1 rfl rfl ?_
                refine go_goto rfl ?_
                rw [nI_1]
                exact h1
              · exact absurd (Int32.not_le.mp hl) e2
      · rw [if_neg hon] at hu
        obtain ⟨u, h1, h2⟩ := ih (w + 1) t (by omega) hu.symm hf
        refine ⟨u, ?_, h2⟩
        refine go_ild_2_1 rfl ?_
        refine go_c rfl ?_
        refine go_icge rfl (fun e => ?_) (fun e => ?_)
        · exact absurd e (nI_ge (b := 8) (by omega) (by omega))
        · refine go_ald_2_0 rfl ?_
          refine go_ild_2_1 rfl ?_
          refine go_call2 rfl (sp_isUp d t c hS w (by omega)) (Nat.le_of_ble_eq_true rfl) (qS_v hS) ?_
          refine go_ifeq rfl (fun e1 => ?_) (fun e1 => ?_)
          · refine go_inc_2_1 rfl rfl ?_
            refine go_goto rfl ?_
            rw [nI_1]
            exact h1
          · exact absurd (qB_f hon) e1
  obtain ⟨t, h1, h2⟩ := loop 8 0 s (by omega) rfl qF.rf
  refine ⟨t, ?_, h2⟩
  refine (en_79 (d + 1) a _).trans ?_
  refine go_c rfl ?_
  refine go_ist_2_1 rfl rfl ?_
  exact h1
def qt_hs (f : Nat → Int32) : Nat → Nat → Int32
  | 0 => f
  | n + 1 => qs_b (qt_ph (qt_hs f n) 8) 0
theorem sp_passS (d : Nat) (s : qb_M) (c : Nat × Nat) {a : Nat} (hS : qS_sh a) {H m : Nat} (hH : s.1 a 4 = nI H) (hH4 : H ≤ 400) (hm : m ≤ 60) (hm2 : H + m ≤ 400) : ∃ t, qe (d + 3) 77 [.ref 125, .ref a, .int (nI m)] (qb_hp (s), 149, c) = some (some (.int (0)), (qb_hp (t), 149, c)) ∧ qs_so t a = qt_hs (qs_so s a) m ∧ qF (fun x => a ≤ x ∧ x < a + 5) s t := by
  have loop : ∀ (n k : Nat) (t : qb_M), k + n = m → qs_so t a = qt_hs (qs_so s a) k → qF (fun x => a ≤ x ∧ x < a + 5) s t → ∃ u, qa_lm (qe (d + 2)) (qa_cd qc_77) (12, [.ref 125, .ref a, .int (nI m), .int (nI k)], [], (qb_hp (t), 149, c)) = some (some (.int (0)), (qb_hp (u), 149, c)) ∧ qs_so u a = qt_hs (qs_so s a) m ∧ qF (fun x => a ≤ x ∧ x < a + 5) s u := by
    intro n
    induction n with
    | zero =>
      intro k t hk hv hf
      have hk : k = m := by omega
      subst hk
      refine ⟨t, ?_, hv, hf⟩
      refine go_ild_4_3 rfl ?_
      refine go_ild_4_2 rfl ?_
      refine go_icge rfl (fun e => ?_) (fun e => ?_)
      · refine go_c rfl ?_
        exact fin_i rfl rfl (rfl)
      · exact absurd (Int32.le_refl _) e
    | succ n ih =>
      intro k t hk hv hf
      obtain ⟨t2, g1, g2, g3⟩ := sp_passHour d t c hS
      obtain ⟨u, h1, h2⟩ := ih (k + 1) t2 (by omega) (by rw [g2, hv]; rfl) (hf.tr g3)
      refine ⟨u, ?_, h2⟩
      refine go_ild_4_3 rfl ?_
      refine go_ild_4_2 rfl ?_
      refine go_icge rfl (fun e => ?_) (fun e => ?_)
      · exact absurd e (nI_ge (by omega) (by omega))
      · refine go_ald_4_1 rfl ?_
        refine go_call1 rfl (g1) (Nat.le_of_ble_eq_true rfl) (qS_v hS) ?_
        refine go_inc_4_3 rfl rfl ?_
        refine go_goto rfl ?_
        rw [nI_1]
        exact h1
  obtain ⟨u, h1, h2⟩ := loop m 0 s (by omega) rfl qF.rf
  refine ⟨u, ?_, h2⟩
  refine (en_77 (d + 2) 125 a (nI m) _).trans ?_
  refine go_ild_4_2 rfl ?_
  refine go_ald_4_1 rfl ?_
  refine go_call1 rfl (sp_hoursLeft (d + 1) s c hS) (Nat.le_of_ble_eq_true rfl) (qS_v hS) ?_
  rw [show qs_so s a 0 = nI H from hH, show (400 : Int32) - nI H = nI (400 - H) from by
    rw [show (400 : Int32) = nI ((400 - H) + H) from by rw [show 400 - H + H = 400 by omega]; rfl, ← nI_add, Int32.add_sub_cancel]]
  refine go_icle rfl (fun e => ?_) (fun e => ?_)
  · refine go_c rfl ?_
    refine go_ist_4_3 rfl rfl ?_
    exact h1
  · exact absurd (nI_le (by omega) (by omega)) e
theorem sp_passF (d : Nat) (s : qb_M) (c : Nat × Nat) {a : Nat} (hS : qS_sh a) {H m : Nat} (hH : s.1 a 4 = nI H) (hH4 : H ≤ 400) (hm : m ≤ 60) (hm2 : ¬ H + m ≤ 400) : qe (d + 3) 77 [.ref 125, .ref a, .int (nI m)] (qb_hp (s), 149, c) = some (some (.int (1)), (qb_hp (s), 149, c)) := by
  refine (en_77 (d + 2) 125 a (nI m) _).trans ?_
  refine go_ild_4_2 rfl ?_
  refine go_ald_4_1 rfl ?_
  refine go_call1 rfl (sp_hoursLeft (d + 1) s c hS) (Nat.le_of_ble_eq_true rfl) (qS_v hS) ?_
  rw [show qs_so s a 0 = nI H from hH, show (400 : Int32) - nI H = nI (400 - H) from by
    rw [show (400 : Int32) = nI ((400 - H) + H) from by rw [show 400 - H + H = 400 by omega]; rfl, ← nI_add, Int32.add_sub_cancel]]
  refine go_icle rfl (fun e => ?_) (fun e => ?_)
  · exact absurd ((nI_leI (by omega) (by omega)).mp e) (by omega)
  · refine go_c rfl ?_
    exact fin_i rfl rfl (rfl)
theorem sp_inUse (d : Nat) (s : qb_M) (c : Nat × Nat) {a : Nat} (hS : qS_sh a) {nw nm : Nat} {lo hi : Nat → Nat} (hp : qP_pl s 67 nw nm lo hi) {X : Nat} (hX : s.1 a 5 = nI X) (hX3 : X < 1024) : qe (d + 3) 74 [.ref 125, .ref a] (qb_hp (s), 149, c) = some (some (.int (nI (qk_F 0 (fun c => qm_ac (qm_th lo hi X c) nm) (qs_on (qs_so s a)) nw))), (qb_hp (s), 149, c)) := by
  obtain ⟨p1, p2, ⟨p3, p4, p5⟩, p6⟩ := id hp
  have loop : ∀ (n w : Nat), w + n = nw → qa_lm (qe (d + 2)) (qa_cd qc_74) (4, [.ref 125, .ref a, .int (nI (qk_F 0 (fun c => qm_ac (qm_th lo hi X c) nm) (qs_on (qs_so s a)) w)), .int (nI w)], [], (qb_hp (s), 149, c)) = some (some (.int (nI (qk_F 0 (fun c => qm_ac (qm_th lo hi X c) nm) (qs_on (qs_so s a)) nw))), (qb_hp (s), 149, c)) := by
    intro n
    induction n with
    | zero =>
      intro w hw
      have hw : w = nw := by omega
      subst hw
      refine go_ild_4_3 rfl ?_
      refine go_ald_4_0 rfl ?_
      refine go_getr rfl ⟨_, rfl, rfl, by decide, by decide⟩ ?_
      refine go_geti rfl ⟨_, rfl, rfl, by decide, by decide⟩ ?_
      rw [p1]
      refine go_icge rfl (fun e => ?_) (fun e => ?_)
      · refine go_ild_4_2 rfl ?_
        exact fin_i rfl rfl (rfl)
      · exact absurd (Int32.le_refl _) e
    | succ n ih =>
      intro w hw
      have ih := ih (w + 1) (by omega)
      have hu : qk_F 0 (fun c => qm_ac (qm_th lo hi X c) nm) (qs_on (qs_so s a)) (w + 1) = if qs_on (qs_so s a) w = true then qk_F 0 (fun c => qm_ac (qm_th lo hi X c) nm) (qs_on (qs_so s a)) w ||| qm_ac (qm_th lo hi X w) nm else qk_F 0 (fun c => qm_ac (qm_th lo hi X c) nm) (qs_on (qs_so s a)) w := rfl
      rw [hu] at ih
      refine go_ild_4_3 rfl ?_
      refine go_ald_4_0 rfl ?_
      refine go_getr rfl ⟨_, rfl, rfl, by decide, by decide⟩ ?_
      refine go_geti rfl ⟨_, rfl, rfl, by decide, by decide⟩ ?_
      rw [p1]
      refine go_icge rfl (fun e => ?_) (fun e => ?_)
      · exact absurd e (nI_ge (by omega) (by omega))
      · refine go_ald_4_1 rfl ?_
        refine go_ild_4_3 rfl ?_
        refine go_call2 rfl (sp_isUp (d + 1) s c hS w (by omega)) (Nat.le_of_ble_eq_true rfl) (qS_v hS) ?_
        refine go_ifeq rfl (fun e1 => ?_) (fun e1 => ?_)
        · rw [if_neg (qB_0.mp e1)] at ih
          refine go_inc_4_3 rfl rfl ?_
          refine go_goto rfl ?_
          rw [nI_1]
          exact ih
        · rw [if_pos (Classical.byContradiction fun z => e1 (qB_f z))] at ih
          refine go_ild_4_2 rfl ?_
          refine go_ald_4_0 rfl ?_
          refine go_ald_4_1 rfl ?_
          refine go_geti rfl (qS_f hS rfl) ?_
          rw [hX]
          refine go_ild_4_3 rfl ?_
          refine go_call3 rfl (sp_switchesOf d s c hp X w hX3 (by omega)) (Nat.le_of_ble_eq_true rfl) (qb_qv rfl (by decide) (by decide)) ?_
          refine go_ior rfl ?_
          rw [fa_or]
          refine go_ist_4_2 rfl rfl ?_
          refine go_inc_4_3 rfl rfl ?_
          refine go_goto rfl ?_
          rw [nI_1]
          exact ih
  refine (en_74 (d + 2) 125 a _).trans ?_
  refine go_c rfl ?_
  refine go_ist_4_2 rfl rfl ?_
  refine go_c rfl ?_
  refine go_ist_4_3 rfl rfl ?_
  exact loop nw 0 (by omega)
theorem sp_callsThrough (d : Nat) (s : qb_M) (c : Nat × Nat) {a : Nat} (hS : qS_sh a) {nw nm : Nat} {lo hi : Nat → Nat} (hp : qP_pl s 67 nw nm lo hi) {X : Nat} (hX : s.1 a 5 = nI X) (hX3 : X < 1024) (k : Nat) (hk : k < nm) : qe (d + 3) 114 [.ref 125, .ref a, .int (nI k)] (qb_hp (s), 149, c) = some (some (.int (nI (qm_ac (fun w => qs_on (qs_so s a) w && qm_th lo hi X w k) nw))), (qb_hp (s), 149, c)) := by
  obtain ⟨p1, p2, ⟨p3, p4, p5⟩, p6⟩ := id hp
  have loop : ∀ (n w : Nat), w + n = nw → qa_lm (qe (d + 2)) (qa_cd qc_114) (5, [.ref 125, .ref a, .int (nI k), .int (nI (qm_ac (fun w => qs_on (qs_so s a) w && qm_th lo hi X w k) w)), .int (nI w)], [], (qb_hp (s), 149, c)) = some (some (.int (nI (qm_ac (fun w => qs_on (qs_so s a) w && qm_th lo hi X w k) nw))), (qb_hp (s), 149, c)) := by
    intro n
    induction n with
    | zero =>
      intro w hw
      have hw : w = nw := by omega
      subst hw
      refine go_ild_5_4 rfl ?_
      refine go_ald_5_0 rfl ?_
      refine go_getr rfl ⟨_, rfl, rfl, by decide, by decide⟩ ?_
      refine go_geti rfl ⟨_, rfl, rfl, by decide, by decide⟩ ?_
      rw [p1]
      refine go_icge rfl (fun e => ?_) (fun e => ?_)
      · refine go_ild_5_3 rfl ?_
        exact fin_i rfl rfl (rfl)
      · exact absurd (Int32.le_refl _) e
    | succ n ih =>
      intro w hw
      have ih := ih (w + 1) (by omega)
      have hac := Nat.lt_of_lt_of_le (qm_ac_lt (qm_th lo hi X w) nm) (Nat.pow_le_pow_right (n := 2) (by decide) p5)
      refine go_ild_5_4 rfl ?_
      refine go_ald_5_0 rfl ?_
      refine go_getr rfl ⟨_, rfl, rfl, by decide, by decide⟩ ?_
      refine go_geti rfl ⟨_, rfl, rfl, by decide, by decide⟩ ?_
      rw [p1]
      refine go_icge rfl (fun e => ?_) (fun e => ?_)
      · exact absurd e (nI_ge (by omega) (by omega))
      · refine go_ald_5_1 rfl ?_
        refine go_ild_5_4 rfl ?_
        refine go_call2 rfl (sp_isUp (d + 1) s c hS w (by omega)) (Nat.le_of_ble_eq_true rfl) (qS_v hS) ?_
        refine go_ifeq rfl (fun e1 => ?_) (fun e1 => ?_)
        · rw [← qx_unset (p := fun w => qs_on (qs_so s a) w && qm_th lo hi X w k) (fun z => qB_0.mp e1 (by rw [Bool.and_eq_true] at z; exact z.1))] at ih
          refine go_inc_5_4 rfl rfl ?_
          refine go_goto rfl ?_
          rw [nI_1]
          exact ih
        · have e1 : qs_on (qs_so s a) w = true := Classical.byContradiction fun z => e1 (qB_f z)
          refine go_ald_5_0 rfl ?_
          refine go_ald_5_1 rfl ?_
          refine go_geti rfl (qS_f hS rfl) ?_
          rw [hX]
          refine go_ild_5_4 rfl ?_
          refine go_call3 rfl (sp_switchesOf d s c hp X w hX3 (by omega)) (Nat.le_of_ble_eq_true rfl) (qb_qv rfl (by decide) (by decide)) ?_
          refine go_ild_5_2 rfl ?_
          refine go_ishr rfl ?_
          refine go_c rfl ?_
          refine go_iand rfl ?_
          rw [qx_bit (by omega) (by omega)]
          refine go_ifeq rfl (fun e2 => ?_) (fun e2 => ?_)
          · have e2 := qx_bit0.mp e2
            rw [qm_ac_bit, decide_eq_true hk, Bool.true_and] at e2
            rw [← qx_unset (p := fun w => qs_on (qs_so s a) w && qm_th lo hi X w k) (fun z => e2 (by rw [Bool.and_eq_true] at z; exact z.2))] at ih
            refine go_inc_5_4 rfl rfl ?_
            refine go_goto rfl ?_
            rw [nI_1]
            exact ih
          · have e2 : (qm_ac (qm_th lo hi X w) nm).testBit k = true := Classical.byContradiction fun z => e2 (qx_bit0.mpr z)
            rw [qm_ac_bit, decide_eq_true hk, Bool.true_and] at e2
            refine go_ild_5_3 rfl ?_
            refine go_c rfl ?_
            refine go_ild_5_4 rfl ?_
            refine go_ishl rfl ?_
            refine go_ior rfl ?_
            rw [qx_set (p := fun w => qs_on (qs_so s a) w && qm_th lo hi X w k) (by omega) (by rw [e1, e2]; rfl)]
            refine go_ist_5_3 rfl rfl ?_
            refine go_inc_5_4 rfl rfl ?_
            refine go_goto rfl ?_
            rw [nI_1]
            exact ih
  refine (en_114 (d + 2) 125 a (nI k) _).trans ?_
  refine go_c rfl ?_
  refine go_ist_5_3 rfl rfl ?_
  refine go_c rfl ?_
  refine go_ist_5_4 rfl rfl ?_
  exact loop nw 0 (by omega)
