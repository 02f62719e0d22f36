/-! the reference's acts -/
theorem go_sw2 {o : qa_O} {cd : qa_Cd} {pc n dd : Nat} {tb : List (Int32 × Nat)} {R : Option (Option Value × qa_H)} {L S : List Value} {h : qa_H} {x : Int32} (hc : cd pc = some (qa_p (qp_sw tb dd))) (ht : qa_sw tb dd x = n) (k : qa_lm o cd (n, L, S, h) = R) : qa_lm o cd (pc, L, .int x :: S, h) = R := by
  subst ht
  exact go_sw hc k
theorem qm_so_w {s : qb_M} {j k : Nat} {v : Int32} (h : j = 30 + k) : qm_so (qb_ui s 194 j v) = qs_u (qm_so s) k v := by subst h; exact qm_so_u
theorem qm_so_r {s : qb_M} {j k : Nat} (h : j = 30 + k) : s.1 194 j = qm_so s k := by subst h; rfl
def qM_fr (s t : qb_M) : Prop := qG (fun x k => x = 194 ∧ 30 ≤ k ∧ k < 70 ∨ x = 192 ∧ k = 26 ∨ x = 204) s t
theorem qM_fr.rf {s : qb_M} : qM_fr s s := qG.rf
theorem qM_fr.tr {s t u : qb_M} (h1 : qM_fr s t) (h2 : qM_fr t u) : qM_fr s u := qG.tr h1 h2
theorem qM_fr.w {s t : qb_M} (h : qM_fr s t) {k : Nat} {v : Int32} (h1 : 30 ≤ k) (h2 : k < 70) : qM_fr s (qb_ui t 194 k v) := qG.ui h (Or.inl ⟨rfl, h1, h2⟩)
theorem qM_fr.pl {s t : qb_M} (hf : qM_fr s t) {nw nm : Nat} {lo hi : Nat → Nat} (h : qm_pl s nw nm lo hi) : qm_pl t nw nm lo hi := by
  obtain ⟨p1, p2, p3, p4⟩ := h
  refine ⟨(hf.i (by omega)).trans p1, (hf.i (by omega)).trans p2, p3, fun k hk => ?_⟩
  obtain ⟨q1, q2, q3⟩ := p4 k hk
  exact ⟨(hf.i (by omega)).trans q1, (hf.i (by omega)).trans q2, q3⟩
theorem sp_turned (d : Nat) (s : qb_M) (c : Nat × Nat) (k : Nat) (hk : k < 10) : ∃ t, qe (d + 1) 224 [.ref 192, .int (nI k)] (qb_hp (s), 149, c) = some (none, (qb_hp (t), 149, c)) ∧ qm_so t = qs_b (qs_b (qs_u (qm_so s) 1 (qm_so s 1 ^^^ (1 : Int32) <<< (nI k &&& 31))) (30 + k)) 5 ∧ qM_fr s t := by
  refine ⟨qb_ui (qb_ui (qb_ui s 194 31 (s.1 194 31 ^^^ (1 : Int32) <<< (nI k &&& 31))) 194 (60 + k) ((qb_ui s 194 31 (s.1 194 31 ^^^ (1 : Int32) <<< (nI k &&& 31))).1 194 (60 + k) + 1)) 194 35 ((qb_ui (qb_ui s 194 31 (s.1 194 31 ^^^ (1 : Int32) <<< (nI k &&& 31))) 194 (60 + k) ((qb_ui s 194 31 (s.1 194 31 ^^^ (1 : Int32) <<< (nI k &&& 31))).1 194 (60 + k) + 1)).1 194 35 + 1), ?_, ?_, ((qM_fr.rf.w (by omega) (by omega)).w (by omega) (by omega)).w (by omega) (by omega)⟩
  · refine (en_224 d 192 (nI k) _).trans ?_
    refine go_ald_2_0 rfl ?_
    refine go_getr rfl ⟨_, rfl, rfl, by decide, by decide⟩ ?_
    refine go_c rfl ?_
    refine go_dup2 rfl ?_
    refine go_iald (j := 31) rfl (⟨rfl, by decide, by decide, by decide⟩) (rfl) (by omega) ?_
    refine go_c rfl ?_
    refine go_ild_2_1 rfl ?_
    refine go_ishl rfl ?_
    refine go_ixor rfl ?_
    refine go_iast (j := 31) rfl (⟨rfl, by decide, by decide, by decide⟩) (rfl) (by omega) ?_
    refine go_ald_2_0 rfl ?_
    refine go_getr rfl ⟨_, rfl, rfl, by decide, by decide⟩ ?_
    refine go_c rfl ?_
    refine go_ild_2_1 rfl ?_
    refine go_iadd rfl ?_
    refine go_dup2 rfl ?_
    refine go_iald (j := 60 + k) rfl (⟨rfl, by decide, by decide, by decide⟩) (nI_add 60 k) (by omega) ?_
    refine go_c rfl ?_
    refine go_iadd rfl ?_
    refine go_iast (j := 60 + k) rfl (⟨rfl, by decide, by decide, by decide⟩) (nI_add 60 k) (by omega) ?_
    refine go_ald_2_0 rfl ?_
    refine go_getr rfl ⟨_, rfl, rfl, by decide, by decide⟩ ?_
    refine go_c rfl ?_
    refine go_dup2 rfl ?_
    refine go_iald (j := 35) rfl (⟨rfl, by decide, by decide, by decide⟩) (rfl) (by omega) ?_
    refine go_c rfl ?_
    refine go_iadd rfl ?_
    refine go_iast (j := 35) rfl (⟨rfl, by decide, by decide, by decide⟩) (rfl) (by omega) ?_
    exact fin_v rfl rfl
  · rw [qm_so_w (j := 35) (k := 5) (by omega), qm_so_r (j := 35) (k := 5) (by omega), qm_so_w (j := 60 + k) (k := 30 + k) (by omega), qm_so_r (j := 60 + k) (k := 30 + k) (by omega), qm_so_w (j := 31) (k := 1) (by omega), qm_so_r (j := 31) (k := 1) (by omega)]
    rfl
def qt_me (f : Nat → Int32) (w : Nat) : Nat → Int32 := qs_u (qs_u (qs_u f (6 + w) (-1)) (14 + w) 0) (22 + w) 0
theorem sp_doEnd (d : Nat) (s : qb_M) (c : Nat × Nat) (w : Nat) (hw : w < 8) : ∃ t, qe (d + 1) 225 [.ref 192, .int (nI w)] (qb_hp (s), 149, c) = some (none, (qb_hp (t), 149, c)) ∧ qm_so t = qt_me (qm_so s) w ∧ qM_fr s t := by
  refine ⟨qb_ui (qb_ui (qb_ui s 194 (36 + w) (-1)) 194 (44 + w) 0) 194 (52 + w) 0, ?_, ?_, ((qM_fr.rf.w (by omega) (by omega)).w (by omega) (by omega)).w (by omega) (by omega)⟩
  · refine (en_225 d 192 (nI w) _).trans ?_
    refine go_ald_2_0 rfl ?_
    refine go_getr rfl ⟨_, rfl, rfl, by decide, by decide⟩ ?_
    refine go_c rfl ?_
    refine go_ild_2_1 rfl ?_
    refine go_iadd rfl ?_
    refine go_c rfl ?_
    refine go_iast (j := 36 + w) rfl (⟨rfl, by decide, by decide, by decide⟩) (nI_add 36 w) (by omega) ?_
    refine go_ald_2_0 rfl ?_
    refine go_getr rfl ⟨_, rfl, rfl, by decide, by decide⟩ ?_
    refine go_c rfl ?_
    refine go_ild_2_1 rfl ?_
    refine go_iadd rfl ?_
    refine go_c rfl ?_
    refine go_iast (j := 44 + w) rfl (⟨rfl, by decide, by decide, by decide⟩) (nI_add 44 w) (by omega) ?_
    refine go_ald_2_0 rfl ?_
    refine go_getr rfl ⟨_, rfl, rfl, by decide, by decide⟩ ?_
    refine go_c rfl ?_
    refine go_ild_2_1 rfl ?_
    refine go_iadd rfl ?_
    refine go_c rfl ?_
    refine go_iast (j := 52 + w) rfl (⟨rfl, by decide, by decide, by decide⟩) (nI_add 52 w) (by omega) ?_
    exact fin_v rfl rfl
  · rw [qm_so_w (k := 22 + w) (by omega), qm_so_w (k := 14 + w) (by omega), qm_so_w (k := 6 + w) (by omega)]
    rfl
/-- an hour, as the reference has it -/
def qt_m1 (f : Nat → Int32) (w : Nat) : Nat → Int32 := if qs_on f w = true then (if f (14 + w) - 1 = 0 then qt_me (qs_u f (14 + w) (f (14 + w) - 1)) w else qs_u f (14 + w) (f (14 + w) - 1)) else f
def qt_mh (f : Nat → Int32) : Nat → Nat → Int32
  | 0 => f
  | w + 1 => qt_m1 (qt_mh f w) w
theorem sp_oneHour (d : Nat) (s : qb_M) (c : Nat × Nat) {nw nm : Nat} {lo hi : Nat → Nat} (hp : qm_pl s nw nm lo hi) : ∃ t, qe (d + 2) 234 [.ref 192] (qb_hp (s), 149, c) = some (none, (qb_hp (t), 149, c)) ∧ qm_so t = qs_b (qt_mh (qm_so s) nw) 0 ∧ qM_fr s t := by
  obtain ⟨p1, p2, ⟨p3, p4, p5⟩, p6⟩ := id hp
  have loop : ∀ (n w : Nat) (t : qb_M), w + n = nw → qm_so t = qt_mh (qm_so s) w → qM_fr s t → ∃ u, qa_lm (qe (d + 1)) (qa_cd qc_234) (2, [.ref 192, .int (nI w)], [], (qb_hp (t), 149, c)) = some (none, (qb_hp (u), 149, c)) ∧ qm_so u = qs_b (qt_mh (qm_so s) nw) 0 ∧ qM_fr s u := by
    intro n
    induction n with
    | zero =>
      intro w t hw hv hf
      have hw : w = nw := by omega
      subst hw
      refine ⟨qb_ui t 194 30 (t.1 194 30 + 1), ?_, by rw [qm_so_w (k := 0) (by omega), qm_so_r (k := 0) (by omega), hv]; rfl, hf.w (by omega) (by omega)⟩
      refine go_ild_2_1 rfl ?_
      refine go_ald_2_0 rfl ?_
      refine go_getr rfl ⟨_, rfl, rfl, by decide, by decide⟩ ?_
      refine go_c rfl ?_
      refine go_iald (j := 0) rfl ⟨rfl, by decide, by decide, by decide⟩ rfl (by decide) ?_
      rw [show t.1 194 0 = nI w from (hf.i (by omega)).trans p1]
      refine go_icge rfl (fun e => ?_) (fun e => ?_)
      · refine go_ald_2_0 rfl ?_
        refine go_getr rfl ⟨_, rfl, rfl, by decide, by decide⟩ ?_
        refine go_c rfl ?_
        refine go_dup2 rfl ?_
        refine go_iald (j := 30) rfl (⟨rfl, by decide, by decide, by decide⟩) (rfl) (by omega) ?_
        refine go_c rfl ?_
        refine go_iadd rfl ?_
        refine go_iast (j := 30) rfl (⟨rfl, by decide, by decide, by decide⟩) (rfl) (by omega) ?_
        exact fin_v rfl rfl
      · exact absurd (Int32.le_refl _) e
    | succ n ih =>
      intro w t hw hv hf
      have hu : qt_mh (qm_so s) (w + 1) = qt_m1 (qm_so t) w := by rw [hv]; rfl
      unfold qt_m1 at hu
      have hv1 : qm_so (qb_ui t 194 (44 + w) (t.1 194 (44 + w) - 1)) = qs_u (qm_so t) (14 + w) (qm_so t (14 + w) - 1) := by rw [qm_so_w (k := 14 + w) (by omega), qm_so_r (k := 14 + w) (by omega)]
      have hf1 : qM_fr s (qb_ui t 194 (44 + w) (t.1 194 (44 + w) - 1)) := hf.w (by omega) (by omega)
      by_cases hon : qs_on (qm_so t) w = true
      · rw [if_pos hon] at hu
        by_cases hl : qm_so t (14 + w) - 1 = 0
        · rw [if_pos hl] at hu
          obtain ⟨t2, g1, g2, g3⟩ := sp_doEnd d (qb_ui t 194 (44 + w) (t.1 194 (44 + w) - 1)) c w (by omega)
          obtain ⟨u, h1, h2⟩ := ih (w + 1) t2 (by omega) (by rw [hu, g2, hv1]) (hf1.tr g3)
          refine ⟨u, ?_, h2⟩
          refine go_ild_2_1 rfl ?_
          refine go_ald_2_0 rfl ?_
          refine go_getr rfl ⟨_, rfl, rfl, by decide, by decide⟩ ?_
          refine go_c rfl ?_
          refine go_iald (j := 0) rfl ⟨rfl, by decide, by decide, by decide⟩ rfl (by decide) ?_
          rw [show t.1 194 0 = nI nw from (hf.i (by omega)).trans p1]
          refine go_icge rfl (fun e => ?_) (fun e => ?_)
          · exact absurd e (nI_ge (by omega) (by omega))
          · refine go_ald_2_0 rfl ?_
            refine go_ild_2_1 rfl ?_
            refine go_call2 rfl (sp_isOn' d t c w (by omega)) (Nat.le_of_ble_eq_true rfl) (qb_qv rfl (by decide) (by decide)) ?_
            refine go_ifne rfl (fun e1 => ?_) (fun e1 => ?_)
            · exact absurd hon (qB_0.mp e1)
            · refine go_ald_2_0 rfl ?_
              refine go_getr rfl ⟨_, rfl, rfl, by decide, by decide⟩ ?_
              refine go_c rfl ?_
              refine go_ild_2_1 rfl ?_
              refine go_iadd rfl ?_
              refine go_dup2 rfl ?_
              refine go_iald (j := 44 + w) rfl (⟨rfl, by decide, by decide, by decide⟩) (nI_add 44 w) (by omega) ?_
              refine go_c rfl ?_
              refine go_isub rfl ?_
              refine go_iast (j := 44 + w) rfl (⟨rfl, by decide, by decide, by decide⟩) (nI_add 44 w) (by omega) ?_
              refine go_ald_2_0 rfl ?_
              refine go_getr rfl ⟨_, rfl, rfl, by decide, by decide⟩ ?_
              refine go_c rfl ?_
              refine go_ild_2_1 rfl ?_
              refine go_iadd rfl ?_
              refine go_iald (j := 44 + w) rfl (⟨rfl, by decide, by decide, by decide⟩) (nI_add 44 w) (by omega) ?_
              rw [qb_ui_1s]
              refine go_ifne rfl (fun e2 => ?_) (fun e2 => ?_)
              · refine go_ald_2_0 rfl ?_
                refine go_ild_2_1 rfl ?_
                refine go_call2 rfl (g1) (Nat.le_of_ble_eq_true rfl) (qb_qv rfl (by decide) (by decide)) ?_
                refine go_inc_2_1 rfl rfl ?_
                refine go_goto rfl ?_
                rw [nI_1]
                exact h1
              · exact absurd ((qm_so_r (k := 14 + w) (show 44 + w = 30 + (14 + w) by omega)) ▸ hl) e2
        · rw [if_neg hl] at hu
          obtain ⟨u, h1, h2⟩ := ih (w + 1) _ (by omega) (hv1.trans hu.symm) hf1
          refine ⟨u, ?_, h2⟩
          refine go_ild_2_1 rfl ?_
          refine go_ald_2_0 rfl ?_
          refine go_getr rfl ⟨_, rfl, rfl, by decide, by decide⟩ ?_
          refine go_c rfl ?_
          refine go_iald (j := 0) rfl ⟨rfl, by decide, by decide, by decide⟩ rfl (by decide) ?_
          rw [show t.1 194 0 = nI nw from (hf.i (by omega)).trans p1]
          refine go_icge rfl (fun e => ?_) (fun e => ?_)
          · exact absurd e (nI_ge (by omega) (by omega))
          · refine go_ald_2_0 rfl ?_
            refine go_ild_2_1 rfl ?_
            refine go_call2 rfl (sp_isOn' d t c w (by omega)) (Nat.le_of_ble_eq_true rfl) (qb_qv rfl (by decide) (by decide)) ?_
            refine go_ifne rfl (fun e1 => ?_) (fun e1 => ?_)
            · exact absurd hon (qB_0.mp e1)
            · refine go_ald_2_0 rfl ?_
              refine go_getr rfl ⟨_, rfl, rfl, by decide, by decide⟩ ?_
              refine go_c rfl ?_
              refine go_ild_2_1 rfl ?_
              refine go_iadd rfl ?_
              refine go_dup2 rfl ?_
              refine go_iald (j := 44 + w) rfl (⟨rfl, by decide, by decide, by decide⟩) (nI_add 44 w) (by omega) ?_
              refine go_c rfl ?_
              refine go_isub rfl ?_
              refine go_iast (j := 44 + w) rfl (⟨rfl, by decide, by decide, by decide⟩) (nI_add 44 w) (by omega) ?_
              refine go_ald_2_0 rfl ?_
              refine go_getr rfl ⟨_, rfl, rfl, by decide, by decide⟩ ?_
              refine go_c rfl ?_
              refine go_ild_2_1 rfl ?_
              refine go_iadd rfl ?_
              refine go_iald (j := 44 + w) rfl (⟨rfl, by decide, by decide, by decide⟩) (nI_add 44 w) (by omega) ?_
              rw [qb_ui_1s]
              refine go_ifne rfl (fun e2 => ?_) (fun e2 => ?_)
              · rw [qm_so_r (k := 14 + w) (show 44 + w = 30 + (14 + w) by omega)] at e2
                exact absurd e2 hl
              · refine go_inc_2_1 rfl rfl ?_
                refine go_goto rfl ?_
                rw [nI_1]
                exact h1
      · rw [if_neg hon] at hu
        obtain ⟨u, h1, h2⟩ := ih (w + 1) t (by omega) hu.symm hf
        refine ⟨u, ?_, h2⟩
        refine go_ild_2_1 rfl ?_
        refine go_ald_2_0 rfl ?_
        refine go_getr rfl ⟨_, rfl, rfl, by decide, by decide⟩ ?_
        refine go_c rfl ?_
        refine go_iald (j := 0) rfl ⟨rfl, by decide, by decide, by decide⟩ rfl (by decide) ?_
        rw [show t.1 194 0 = nI nw from (hf.i (by omega)).trans p1]
        refine go_icge rfl (fun e => ?_) (fun e => ?_)
        · exact absurd e (nI_ge (by omega) (by omega))
        · refine go_ald_2_0 rfl ?_
          refine go_ild_2_1 rfl ?_
          refine go_call2 rfl (sp_isOn' d t c w (by omega)) (Nat.le_of_ble_eq_true rfl) (qb_qv rfl (by decide) (by decide)) ?_
          refine go_ifne rfl (fun e1 => ?_) (fun e1 => ?_)
          · refine go_goto rfl ?_
            refine go_inc_2_1 rfl rfl ?_
            refine go_goto rfl ?_
            rw [nI_1]
            exact h1
          · exact absurd (qB_f hon) e1
  obtain ⟨t, h1, h2⟩ := loop nw 0 s (by omega) rfl qM_fr.rf
  refine ⟨t, ?_, h2⟩
  refine (en_234 (d + 1) 192 _).trans ?_
  refine go_c rfl ?_
  refine go_ist_2_1 rfl rfl ?_
  exact h1
def qt_ms (f : Nat → Int32) (nw : Nat) : Nat → Nat → Int32
  | 0 => f
  | n + 1 => qs_b (qt_mh (qt_ms f nw n) nw) 0
theorem qx_400 {H : Nat} (h : H ≤ 400) : (400 : Int32) - nI H = nI (400 - H) := by
  rw [show (400 : Int32) = nI ((400 - H) + H) from by rw [show 400 - H + H = 400 by omega]; rfl, ← nI_add, Int32.add_sub_cancel]
theorem sp_least (d a b : Nat) (ha : a < 2 ^ 31) (hb : b < 2 ^ 31) (h : qa_H) : qe (d + 1) 233 [.int (nI a), .int (nI b)] h = some (some (.int (nI (min a b))), h) := by
  refine (en_233 d (nI a) (nI b) h).trans ?_
  refine go_ild_2_0 rfl ?_
  refine go_ild_2_1 rfl ?_
  refine go_icge rfl (fun e => ?_) (fun e => ?_)
  · have e := Nat.not_lt.mp (fun z => absurd (nI_lt z hb) (Int32.not_lt.mpr e))
    refine go_ild_2_1 rfl ?_
    exact fin_i rfl rfl (qR_i (by rw [Nat.min_eq_right e]))
  · have e := (nI_ltI ha hb).mp (Int32.not_le.mp e)
    refine go_ild_2_0 rfl ?_
    refine go_goto rfl ?_
    exact fin_i rfl rfl (qR_i (by rw [Nat.min_eq_left (by omega)]))
theorem sp_passHours (d : Nat) (s : qb_M) (c : Nat × Nat) {nw nm : Nat} {lo hi : Nat → Nat} (hp : qm_pl s nw nm lo hi) {H m : Nat} (hH : qm_so s 0 = nI H) (hH4 : H ≤ 400) (hm : m ≤ 60) : ∃ t, qe (d + 3) 232 [.ref 192, .int (nI m)] (qb_hp (s), 149, c) = some (some (.int (nI (min m (400 - H)))), (qb_hp (t), 149, c)) ∧ qm_so t = qt_ms (qm_so s) nw (min m (400 - H)) ∧ qM_fr s t := by
  obtain ⟨K, hK⟩ : ∃ K, min m (400 - H) = K := ⟨_, rfl⟩
  have hKl : K ≤ 60 := by omega
  have hls := sp_least (d + 1) m (400 - H) (by omega) (by omega) (qb_hp s, 149, c)
  rw [hK] at hls ⊢
  have loop : ∀ (n k : Nat) (t : qb_M), k + n = K → qm_so t = qt_ms (qm_so s) nw k → qM_fr s t → ∃ u, qa_lm (qe (d + 2)) (qa_cd qc_232) (18, [.ref 192, .int (nI m), .int (nI K), .int (nI k)], [], (qb_hp (t), 149, c)) = some (some (.int (nI K)), (qb_hp (u), 149, c)) ∧ qm_so u = qt_ms (qm_so s) nw K ∧ qM_fr s u := by
    intro n
    induction n with
    | zero =>
      intro k t hk hv hf
      have hk : k = K := by omega
      subst hk
      refine ⟨t, ?_, hv, hf⟩
      refine go_ild_4_3 rfl ?_
      refine go_ild_4_2 rfl ?_
      refine go_icge rfl (fun e => ?_) (fun e => ?_)
      · refine go_ild_4_2 rfl ?_
        exact fin_i rfl rfl (rfl)
      · exact absurd (Int32.le_refl _) e
    | succ n ih =>
      intro k t hk hv hf
      obtain ⟨t2, g1, g2, g3⟩ := sp_oneHour d t c (hf.pl hp)
      obtain ⟨u, h1, h2⟩ := ih (k + 1) t2 (by omega) (by rw [g2, hv]; rfl) (hf.tr g3)
      refine ⟨u, ?_, h2⟩
      refine go_ild_4_3 rfl ?_
      refine go_ild_4_2 rfl ?_
      refine go_icge rfl (fun e => ?_) (fun e => ?_)
      · exact absurd e (nI_ge (by omega) (by omega))
      · refine go_ald_4_0 rfl ?_
        refine go_call1 rfl (g1) (Nat.le_of_ble_eq_true rfl) (qb_qv rfl (by decide) (by decide)) ?_
        refine go_inc_4_3 rfl rfl ?_
        refine go_goto rfl ?_
        rw [nI_1]
        exact h1
  obtain ⟨u, h1, h2⟩ := loop K 0 s (by omega) rfl qM_fr.rf
  refine ⟨u, ?_, h2⟩
  refine (en_232 (d + 2) 192 (nI m) _).trans ?_
  refine go_ild_4_1 rfl ?_
  refine go_c rfl ?_
  refine go_ald_4_0 rfl ?_
  refine go_getr rfl ⟨_, rfl, rfl, by decide, by decide⟩ ?_
  refine go_c rfl ?_
  refine go_iald (j := 30) rfl ⟨rfl, by decide, by decide, by decide⟩ rfl (by decide) ?_
  rw [show s.1 194 30 = nI H from hH]
  refine go_isub rfl ?_
  rw [qx_400 hH4]
  refine go_call2 rfl (hls) (Nat.le_of_ble_eq_true rfl) rfl ?_
  refine go_ist_4_2 rfl rfl ?_
  refine go_c rfl ?_
  refine go_ist_4_3 rfl rfl ?_
  exact h1
theorem qm_flip {X D k : Nat} (hb : D.testBit k = true) : X ^^^ D % 2 ^ k ^^^ 2 ^ k = X ^^^ D % 2 ^ (k + 1) := by
  apply Nat.eq_of_testBit_eq
  intro j
  rw [Nat.testBit_xor, Nat.testBit_xor, Nat.testBit_xor, Nat.testBit_mod_two_pow, Nat.testBit_mod_two_pow, Nat.testBit_two_pow]
  by_cases e : k = j
  · subst e; simp [hb]
  · by_cases e2 : j < k
    · simp [e, e2, show j < k + 1 by omega]
    · simp [e, e2, show ¬ j < k + 1 by omega]
theorem qm_nflip {D k : Nat} (hb : ¬ D.testBit k = true) : D % 2 ^ (k + 1) = D % 2 ^ k := by
  apply Nat.eq_of_testBit_eq
  intro j
  rw [Nat.testBit_mod_two_pow, Nat.testBit_mod_two_pow]
  by_cases e : k = j
  · subst e; simp [hb]
  · by_cases e2 : j < k
    · simp [e2, show j < k + 1 by omega]
    · simp [e2, show ¬ j < k + 1 by omega]
theorem sp_doCall (d : Nat) (s : qb_M) (c : Nat × Nat) {nw nm : Nat} {lo hi : Nat → Nat} (hp : qm_pl s nw nm lo hi) {V : Nat} (hV : s.1 194 3 = nI V ∧ V ≤ 9) {H X J : Nat} {Lf Sh : Nat → Nat} (hI : qs_in nw nm lo hi (qm_so s) H X J Lf Sh) (i o : Nat) (hi0 : i < nw) (ho : o < nw) (n h : Int32) (b : Bool) (hb : h = 0 ↔ b = false) {Z : Nat} (hZ : Z < 2 ^ nm) (hq : qk_m lo hi nw nm X J (qm_so s) b V Sh i o (2 ^ nm) = (qk_ct lo hi nw nm X (qm_so s) Z, nI Z)) : ∃ t, qe (d + 6) 223 [.ref 192, .int (nI i), .int (nI o), .int n, .int h] (qb_hp (s), 149, c) = some (none, (qb_hp (t), 149, c)) ∧ qm_so t = qt_cl lo hi nw nm i o n X Z (qm_so s) ∧ qM_fr s t := by
  have hok := hp.ok
  obtain ⟨p1, p2, ⟨p3, p4, p5⟩, p6⟩ := id hp
  obtain ⟨hH, ⟨hX, hX2⟩, ⟨hJ, hJ2⟩, hW⟩ := id hI
  have h10 : 2 ^ nm ≤ 2 ^ 10 := Nat.pow_le_pow_right (by decide) p5
  have hD : X ^^^ Z < 2 ^ nm := Nat.xor_lt_two_pow hX2 hZ
  have hsf := sp_settingFor d s c hp hV hI i o hi0 ho h b hb
  rw [hq] at hsf
  obtain ⟨s1, hs1⟩ : ∃ s1, qb_ui (qb_wl s 204 0 nw (fun w => lN (qm_wy lo hi X w nm))) 192 26 (nI (qk_ct lo hi nw nm X (qm_so s) Z)) = s1 := ⟨_, rfl⟩
  have hf1 : qM_fr s s1 := by rw [← hs1]; exact qG.ui (qG.wl qG.rf (fun k _ _ => Or.inr (Or.inr rfl))) (Or.inr (Or.inl ⟨rfl, rfl⟩))
  have hso1 : qm_so s1 = qm_so s := by rw [← hs1]; rfl
  have hw1 : ∀ w, w < nw → s1.2.1 204 w = lN (qm_wy lo hi X w nm) := fun w hw => by
    rw [← hs1]
    have := qb_wl_in (s := s) (a := 204) (i := 0) (n := nw) (k := w) (g := fun w => lN (qm_wy lo hi X w nm)) hw
    rw [Nat.zero_add] at this
    exact this
  dsimp only at hsf
  rw [hs1] at hsf
  -- the turns, one by one
  have loop2 : ∀ (m k : Nat) (t : qb_M), k + m = nm → qm_so t = qs_u (qt_tn (X ^^^ Z) (qt_sf (fun c => qs_on (qm_so s) c && qm_ch lo hi nm X Z c) (qm_so s) nw) k) 1 (nI (X ^^^ (X ^^^ Z) % 2 ^ k)) → qM_fr s t → ∃ u, qa_lm (qe (d + 5)) (qa_cd qc_223) (89, [.ref 192, .int (nI i), .int (nI o), .int n, .int h, .int (nI Z), .int (nI k)], [], (qb_hp (t), 149, c)) = some (none, (qb_hp (u), 149, c)) ∧ qm_so u = qt_cl lo hi nw nm i o n X Z (qm_so s) ∧ qM_fr s u := by
    intro m
    induction m with
    | zero =>
      intro k t hk hv hf
      have hk : k = nm := by omega
      subst hk
      refine ⟨qb_ui (qb_ui (qb_ui (qb_ui t 194 (36 + i) (nI o)) 194 (44 + i) n) 194 (52 + i) 0) 194 33 ((qb_ui (qb_ui (qb_ui t 194 (36 + i) (nI o)) 194 (44 + i) n) 194 (52 + i) 0).1 194 33 + 1), ?_, ?_, (((hf.w (by omega) (by omega)).w (by omega) (by omega)).w (by omega) (by omega)).w (by omega) (by omega)⟩
      · refine go_ild_7_6 rfl ?_
        refine go_ald_7_0 rfl ?_
        refine go_getr rfl ⟨_, rfl, rfl, by decide, by decide⟩ ?_
        refine go_c rfl ?_
        refine go_iald (j := 1) rfl ⟨rfl, by decide, by decide, by decide⟩ rfl (by decide) ?_
        rw [show t.1 194 1 = nI k from (hf.i (by omega)).trans p2]
        refine go_icge rfl (fun e => ?_) (fun e => ?_)
        · refine go_ald_7_0 rfl ?_
          refine go_getr rfl ⟨_, rfl, rfl, by decide, by decide⟩ ?_
          refine go_c rfl ?_
          refine go_ild_7_1 rfl ?_
          refine go_iadd rfl ?_
          refine go_ild_7_2 rfl ?_
          refine go_iast (j := 36 + i) rfl (⟨rfl, by decide, by decide, by decide⟩) (nI_add 36 i) (by omega) ?_
          refine go_ald_7_0 rfl ?_
          refine go_getr rfl ⟨_, rfl, rfl, by decide, by decide⟩ ?_
          refine go_c rfl ?_
          refine go_ild_7_1 rfl ?_
          refine go_iadd rfl ?_
          refine go_ild_7_3 rfl ?_
          refine go_iast (j := 44 + i) rfl (⟨rfl, by decide, by decide, by decide⟩) (nI_add 44 i) (by omega) ?_
          refine go_ald_7_0 rfl ?_
          refine go_getr rfl ⟨_, rfl, rfl, by decide, by decide⟩ ?_
          refine go_c rfl ?_
          refine go_ild_7_1 rfl ?_
          refine go_iadd rfl ?_
          refine go_c rfl ?_
          refine go_iast (j := 52 + i) rfl (⟨rfl, by decide, by decide, by decide⟩) (nI_add 52 i) (by omega) ?_
          refine go_ald_7_0 rfl ?_
          refine go_getr rfl ⟨_, rfl, rfl, by decide, by decide⟩ ?_
          refine go_c rfl ?_
          refine go_dup2 rfl ?_
          refine go_iald (j := 33) rfl (⟨rfl, by decide, by decide, by decide⟩) (rfl) (by omega) ?_
          refine go_c rfl ?_
          refine go_iadd rfl ?_
          refine go_iast (j := 33) rfl (⟨rfl, by decide, by decide, by decide⟩) (rfl) (by omega) ?_
          exact fin_v rfl rfl
        · exact absurd (Int32.le_refl _) e
      · rw [qm_so_w (k := 3) (by omega), qm_so_r (k := 3) (by omega), qm_so_w (k := 22 + i) (by omega), qm_so_w (k := 14 + i) (by omega), qm_so_w (k := 6 + i) (by omega), hv, Nat.mod_eq_of_lt hD, ← Nat.xor_assoc, Nat.xor_self, Nat.zero_xor]
        rfl
    | succ m ih =>
      intro k t hk hv hf
      have hXk : X ^^^ (X ^^^ Z) % 2 ^ k < 1024 := Nat.xor_lt_two_pow (n := 10) (by omega) (Nat.lt_of_le_of_lt (Nat.mod_le _ _) (by omega))
      have h31 : t.1 194 31 = nI (X ^^^ (X ^^^ Z) % 2 ^ k) := by rw [qm_so_r (k := 1) (by omega), hv, qs_u_s]
      have hbit : (Z ^^^ (X ^^^ (X ^^^ Z) % 2 ^ k)).testBit k = (X ^^^ Z).testBit k := by
        rw [Nat.testBit_xor, Nat.testBit_xor, Nat.testBit_mod_two_pow, Nat.testBit_xor]
        cases X.testBit k <;> cases Z.testBit k <;> simp
      have hZk : Z ^^^ (X ^^^ (X ^^^ Z) % 2 ^ k) < 1024 := Nat.xor_lt_two_pow (n := 10) (by omega) hXk
      have hu : qt_tn (X ^^^ Z) (qt_sf (fun c => qs_on (qm_so s) c && qm_ch lo hi nm X Z c) (qm_so s) nw) (k + 1) = if (X ^^^ Z).testBit k = true then qs_b (qs_b (qt_tn (X ^^^ Z) (qt_sf (fun c => qs_on (qm_so s) c && qm_ch lo hi nm X Z c) (qm_so s) nw) k) (30 + k)) 5 else qt_tn (X ^^^ Z) (qt_sf (fun c => qs_on (qm_so s) c && qm_ch lo hi nm X Z c) (qm_so s) nw) k := rfl
      generalize qt_sf (fun c => qs_on (qm_so s) c && qm_ch lo hi nm X Z c) (qm_so s) nw = g at hu hv ih
      by_cases hbt : (X ^^^ Z).testBit k = true
      · rw [if_pos hbt] at hu
        obtain ⟨t2, g1, g2, g3⟩ := sp_turned (d + 4) t c k (by omega)
        obtain ⟨u, h1, h2⟩ := ih (k + 1) t2 (by omega) (by
          rw [g2, hv, qs_u_s, hu, qx_1shl k (by omega), fb_xorI, qm_flip hbt]
          funext j
          unfold qs_b qs_u
          by_cases j1 : j = 1
          · subst j1
            rw [if_neg (by omega), if_neg (by omega), if_pos rfl, if_pos rfl]
          · by_cases j5 : j = 5
            · subst j5
              simp only [if_neg j1, if_pos rfl, if_neg (show ¬ (5 : Nat) = 30 + k by omega), if_neg (show ¬ (5 : Nat) = 1 by omega)]
            · by_cases jk : j = 30 + k
              · subst jk
                simp only [if_neg j1, if_neg j5, if_pos rfl]
              · simp only [if_neg j1, if_neg j5, if_neg jk]) (hf.tr g3)
        refine ⟨u, ?_, h2⟩
        refine go_ild_7_6 rfl ?_
        refine go_ald_7_0 rfl ?_
        refine go_getr rfl ⟨_, rfl, rfl, by decide, by decide⟩ ?_
        refine go_c rfl ?_
        refine go_iald (j := 1) rfl ⟨rfl, by decide, by decide, by decide⟩ rfl (by decide) ?_
        rw [show t.1 194 1 = nI nm from (hf.i (by omega)).trans p2]
        refine go_icge rfl (fun e => ?_) (fun e => ?_)
        · exact absurd e (nI_ge (by omega) (by omega))
        · refine go_ild_7_5 rfl ?_
          refine go_ald_7_0 rfl ?_
          refine go_getr rfl ⟨_, rfl, rfl, by decide, by decide⟩ ?_
          refine go_c rfl ?_
          refine go_iald (j := 31) rfl ⟨rfl, by decide, by decide, by decide⟩ rfl (by decide) ?_
          rw [h31]
          refine go_ixor rfl ?_
          rw [fb_xorI]
          refine go_ild_7_6 rfl ?_
          refine go_call2 rfl (sp_has (d + 4) _ k (by omega) (by omega) _) (Nat.le_of_ble_eq_true rfl) rfl ?_
          refine go_ifeq rfl (fun e2 => ?_) (fun e2 => ?_)
          · rw [hbit] at e2
            exact absurd hbt (qB_0.mp e2)
          · refine go_ald_7_0 rfl ?_
            refine go_ild_7_6 rfl ?_
            refine go_call2 rfl (g1) (Nat.le_of_ble_eq_true rfl) (qb_qv rfl (by decide) (by decide)) ?_
            refine go_inc_7_6 rfl rfl ?_
            refine go_goto rfl ?_
            rw [nI_1]
            exact h1
      · rw [if_neg hbt] at hu
        obtain ⟨u, h1, h2⟩ := ih (k + 1) t (by omega) (by rw [hu, hv, qm_nflip hbt]) hf
        refine ⟨u, ?_, h2⟩
        refine go_ild_7_6 rfl ?_
        refine go_ald_7_0 rfl ?_
        refine go_getr rfl ⟨_, rfl, rfl, by decide, by decide⟩ ?_
        refine go_c rfl ?_
        refine go_iald (j := 1) rfl ⟨rfl, by decide, by decide, by decide⟩ rfl (by decide) ?_
        rw [show t.1 194 1 = nI nm from (hf.i (by omega)).trans p2]
        refine go_icge rfl (fun e => ?_) (fun e => ?_)
        · exact absurd e (nI_ge (by omega) (by omega))
        · refine go_ild_7_5 rfl ?_
          refine go_ald_7_0 rfl ?_
          refine go_getr rfl ⟨_, rfl, rfl, by decide, by decide⟩ ?_
          refine go_c rfl ?_
          refine go_iald (j := 31) rfl ⟨rfl, by decide, by decide, by decide⟩ rfl (by decide) ?_
          rw [h31]
          refine go_ixor rfl ?_
          rw [fb_xorI]
          refine go_ild_7_6 rfl ?_
          refine go_call2 rfl (sp_has (d + 4) _ k (by omega) (by omega) _) (Nat.le_of_ble_eq_true rfl) rfl ?_
          refine go_ifeq rfl (fun e2 => ?_) (fun e2 => ?_)
          · refine go_inc_7_6 rfl rfl ?_
            refine go_goto rfl ?_
            rw [nI_1]
            exact h1
          · rw [hbit] at e2
            exact absurd (qB_f hbt) e2
  -- the shifts, call by call
  have loop1 : ∀ (m w : Nat) (t : qb_M), w + m = nw → qm_so t = qt_sf (fun c => qs_on (qm_so s) c && qm_ch lo hi nm X Z c) (qm_so s) w → qM_fr s t → (∀ w, w < nw → t.2.1 204 w = lN (qm_wy lo hi X w nm)) → ∃ u, qa_lm (qe (d + 5)) (qa_cd qc_223) (13, [.ref 192, .int (nI i), .int (nI o), .int n, .int h, .int (nI Z), .int (nI w)], [], (qb_hp (t), 149, c)) = some (none, (qb_hp (u), 149, c)) ∧ qm_so u = qt_cl lo hi nw nm i o n X Z (qm_so s) ∧ qM_fr s u := by
    intro m
    induction m with
    | zero =>
      intro w t hw hv hf hl
      have hw : w = nw := by omega
      subst hw
      obtain ⟨u, h1, h2⟩ := loop2 nm 0 t (by omega) (by
        rw [hv, Nat.pow_zero, Nat.mod_one, Nat.xor_zero]
        funext j
        unfold qs_u
        by_cases j1 : j = 1
        · subst j1
          rw [if_pos rfl]
          exact (qt_sf_n (by decide) w (Or.inl (by decide))).trans hX
        · rw [if_neg j1]; rfl) hf
      refine ⟨u, ?_, h2⟩
      refine go_ild_7_6 rfl ?_
      refine go_ald_7_0 rfl ?_
      refine go_getr rfl ⟨_, rfl, rfl, by decide, by decide⟩ ?_
      refine go_c rfl ?_
      refine go_iald (j := 0) rfl ⟨rfl, by decide, by decide, by decide⟩ rfl (by decide) ?_
      rw [show t.1 194 0 = nI w from (hf.i (by omega)).trans p1]
      refine go_icge rfl (fun e => ?_) (fun e => ?_)
      · refine go_c rfl ?_
        refine go_ist_7_6 rfl rfl ?_
        exact h1
      · exact absurd (Int32.le_refl _) e
    | succ m ih =>
      intro w t hw hv hf hl
      have hu : qt_sf (fun c => qs_on (qm_so s) c && qm_ch lo hi nm X Z c) (qm_so s) (w + 1) = if (qs_on (qm_so s) w && qm_ch lo hi nm X Z w) = true then qs_b (qs_b (qt_sf (fun c => qs_on (qm_so s) c && qm_ch lo hi nm X Z c) (qm_so s) w) (22 + w)) 4 else qt_sf (fun c => qs_on (qm_so s) c && qm_ch lo hi nm X Z c) (qm_so s) w := rfl
      have hon : qs_on (qm_so t) w = qs_on (qm_so s) w := by rw [hv]; exact qt_sf_on (by omega)
      by_cases hb1 : (qs_on (qm_so s) w && qm_ch lo hi nm X Z w) = true
      · rw [if_pos hb1] at hu
        rw [Bool.and_eq_true] at hb1
        obtain ⟨u, h1, h2⟩ := ih (w + 1) (qb_ui (qb_ui t 194 (52 + w) (t.1 194 (52 + w) + 1)) 194 34 ((qb_ui t 194 (52 + w) (t.1 194 (52 + w) + 1)).1 194 34 + 1)) (by omega) (by
          rw [hu, qm_so_w (j := 34) (k := 4) (by omega), qm_so_r (j := 34) (k := 4) (by omega), qm_so_w (j := 52 + w) (k := 22 + w) (by omega), qm_so_r (j := 52 + w) (k := 22 + w) (by omega), hv]
          rfl) ((hf.w (by omega) (by omega)).w (by omega) (by omega)) hl
        refine ⟨u, ?_, h2⟩
        refine go_ild_7_6 rfl ?_
        refine go_ald_7_0 rfl ?_
        refine go_getr rfl ⟨_, rfl, rfl, by decide, by decide⟩ ?_
        refine go_c rfl ?_
        refine go_iald (j := 0) rfl ⟨rfl, by decide, by decide, by decide⟩ rfl (by decide) ?_
        rw [show t.1 194 0 = nI nw from (hf.i (by omega)).trans p1]
        refine go_icge rfl (fun e => ?_) (fun e => ?_)
        · exact absurd e (nI_ge (by omega) (by omega))
        · refine go_ald_7_0 rfl ?_
          refine go_ild_7_6 rfl ?_
          refine go_call2 rfl (sp_isOn' (d + 4) t c w (by omega)) (Nat.le_of_ble_eq_true rfl) (qb_qv rfl (by decide) (by decide)) ?_
          rw [hon]
          refine go_ifeq rfl (fun e1 => ?_) (fun e1 => ?_)
          · exact absurd hb1.1 (qB_0.mp e1)
          · refine go_ald_7_0 rfl ?_
            refine go_ild_7_6 rfl ?_
            refine go_ild_7_5 rfl ?_
            refine go_call3 rfl (sp_wayOf (d + 2) t c (hf.pl hp) Z w (by omega) (by omega)) (Nat.le_of_ble_eq_true rfl) (qb_qv rfl (by decide) (by decide)) ?_
            refine go_ald_7_0 rfl ?_
            refine go_getr rfl ⟨_, rfl, rfl, by decide, by decide⟩ ?_
            refine go_ild_7_6 rfl ?_
            refine go_lald (j := w) rfl (⟨rfl, by decide, by decide, by decide⟩) (rfl) (by omega) ?_
            rw [hl w (by omega)]
            refine go_lcmp rfl ?_
            refine go_ifne rfl (fun e2 => ?_) (fun e2 => ?_)
            · have e2 := (pk_lEQ (by have := qm_wy_62 hok Z (i := w) (by omega); omega) (by have := qm_wy_62 hok X (i := w) (by omega); omega)).mp (lg_cmp_0.mp e2)
              exact absurd e2 ((qm_ch_iff hok X Z (by omega)).mp hb1.2)
            · refine go_ald_7_0 rfl ?_
              refine go_getr rfl ⟨_, rfl, rfl, by decide, by decide⟩ ?_
              refine go_c rfl ?_
              refine go_ild_7_6 rfl ?_
              refine go_iadd rfl ?_
              refine go_dup2 rfl ?_
              refine go_iald (j := 52 + w) rfl (⟨rfl, by decide, by decide, by decide⟩) (nI_add 52 w) (by omega) ?_
              refine go_c rfl ?_
              refine go_iadd rfl ?_
              refine go_iast (j := 52 + w) rfl (⟨rfl, by decide, by decide, by decide⟩) (nI_add 52 w) (by omega) ?_
              refine go_ald_7_0 rfl ?_
              refine go_getr rfl ⟨_, rfl, rfl, by decide, by decide⟩ ?_
              refine go_c rfl ?_
              refine go_dup2 rfl ?_
              refine go_iald (j := 34) rfl (⟨rfl, by decide, by decide, by decide⟩) (rfl) (by omega) ?_
              refine go_c rfl ?_
              refine go_iadd rfl ?_
              refine go_iast (j := 34) rfl (⟨rfl, by decide, by decide, by decide⟩) (rfl) (by omega) ?_
              refine go_inc_7_6 rfl rfl ?_
              refine go_goto rfl ?_
              rw [nI_1]
              exact h1
      · rw [if_neg hb1] at hu
        obtain ⟨u, h1, h2⟩ := ih (w + 1) t (by omega) (by rw [hu]; exact hv) hf hl
        refine ⟨u, ?_, h2⟩
        refine go_ild_7_6 rfl ?_
        refine go_ald_7_0 rfl ?_
        refine go_getr rfl ⟨_, rfl, rfl, by decide, by decide⟩ ?_
        refine go_c rfl ?_
        refine go_iald (j := 0) rfl ⟨rfl, by decide, by decide, by decide⟩ rfl (by decide) ?_
        rw [show t.1 194 0 = nI nw from (hf.i (by omega)).trans p1]
        refine go_icge rfl (fun e => ?_) (fun e => ?_)
        · exact absurd e (nI_ge (by omega) (by omega))
        · refine go_ald_7_0 rfl ?_
          refine go_ild_7_6 rfl ?_
          refine go_call2 rfl (sp_isOn' (d + 4) t c w (by omega)) (Nat.le_of_ble_eq_true rfl) (qb_qv rfl (by decide) (by decide)) ?_
          rw [hon]
          refine go_ifeq rfl (fun e1 => ?_) (fun e1 => ?_)
          · refine go_inc_7_6 rfl rfl ?_
            refine go_goto rfl ?_
            rw [nI_1]
            exact h1
          · have e1 : qs_on (qm_so s) w = true := Classical.byContradiction fun z => e1 (qB_f z)
            refine go_ald_7_0 rfl ?_
            refine go_ild_7_6 rfl ?_
            refine go_ild_7_5 rfl ?_
            refine go_call3 rfl (sp_wayOf (d + 2) t c (hf.pl hp) Z w (by omega) (by omega)) (Nat.le_of_ble_eq_true rfl) (qb_qv rfl (by decide) (by decide)) ?_
            refine go_ald_7_0 rfl ?_
            refine go_getr rfl ⟨_, rfl, rfl, by decide, by decide⟩ ?_
            refine go_ild_7_6 rfl ?_
            refine go_lald (j := w) rfl (⟨rfl, by decide, by decide, by decide⟩) (rfl) (by omega) ?_
            rw [hl w (by omega)]
            refine go_lcmp rfl ?_
            refine go_ifne rfl (fun e2 => ?_) (fun e2 => ?_)
            · refine go_goto rfl ?_
              refine go_inc_7_6 rfl rfl ?_
              refine go_goto rfl ?_
              rw [nI_1]
              exact h1
            · refine absurd ?_ hb1
              rw [e1, Bool.true_and, qm_ch_iff hok X Z (by omega)]
              exact fun z => e2 (by rw [z]; exact lg_cmp_0.mpr rfl)
  obtain ⟨u, h1, h2⟩ := loop1 nw 0 s1 (by omega) hso1 hf1 hw1
  refine ⟨u, ?_, h2⟩
  refine (en_223 (d + 5) 192 (nI i) (nI o) n h _).trans ?_
  refine go_ald_7_0 rfl ?_
  refine go_ild_7_1 rfl ?_
  refine go_ild_7_2 rfl ?_
  refine go_ild_7_4 rfl ?_
  refine go_call4 rfl (hsf) (Nat.le_of_ble_eq_true rfl) (qb_qv rfl (by decide) (by decide)) ?_
  refine go_ist_7_5 rfl rfl ?_
  refine go_c rfl ?_
  refine go_ist_7_6 rfl rfl ?_
  exact h1
