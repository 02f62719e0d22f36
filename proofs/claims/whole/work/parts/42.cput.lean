/-! the component puts calls through, and its other acts -/
def qC_fr (a : Nat) (s t : qb_M) : Prop := qF (fun x => 125 ≤ x ∧ x ≤ 128 ∨ a ≤ x ∧ x < a + 5) s t ∧ t.1 125 3 = s.1 125 3
theorem qC_fr.rf {a : Nat} {s : qb_M} : qC_fr a s s := ⟨qF.rf, rfl⟩
theorem qC_fr.tr {a : Nat} {s t u : qb_M} (h1 : qC_fr a s t) (h2 : qC_fr a t u) : qC_fr a s u := ⟨h1.1.tr h2.1, h2.2.trans h1.2⟩
theorem qC_fr.st {a : Nat} {s t : qb_M} (ha : 129 ≤ a) (h : qF (fun x => a ≤ x ∧ x < a + 5) s t) : qC_fr a s t := ⟨h.mo (fun x hx => Or.inr hx), h.i (by omega)⟩
theorem sp_put9 (d : Nat) (s : qb_M) (c : Nat × Nat) {a : Nat} {nw : Nat} (p1 : s.1 67 5 = nI nw) (x y n b : Int32) (h : ¬ ((0 ≤ x ∧ x < nI nw) ∧ 0 ≤ y ∧ y < nI nw)) : qe (d + 1) 60 [.ref 125, .ref a, .int x, .int y, .int n, .int b] (qb_hp (s), 149, c) = some (some (.int (9)), (qb_hp (s), 149, c)) := by
  refine (en_60 d 125 a x y n b _).trans ?_
  have fin : qa_lm (qe (d)) (qa_cd qc_60) (30, [.ref 125, .ref a, .int x, .int y, .int n, .int b, .retAddr 0, .retAddr 0], [], (qb_hp (s), 149, c)) = some (some (.int (9)), (qb_hp (s), 149, c)) := by
    refine go_c rfl ?_
    exact fin_i rfl rfl (rfl)
  refine go_ild_8_2 rfl ?_
  refine go_iflt rfl (fun e => ?_) (fun e => ?_)
  · exact fin
  · refine go_ild_8_2 rfl ?_
    refine go_ald_8_0 rfl ?_
    refine go_getr rfl ⟨_, rfl, rfl, by decide, by decide⟩ ?_
    refine go_geti rfl ⟨_, rfl, rfl, by decide, by decide⟩ ?_
    rw [p1]
    refine go_icge rfl (fun e2 => ?_) (fun e2 => ?_)
    · exact fin
    · refine go_ild_8_3 rfl ?_
      refine go_iflt rfl (fun e3 => ?_) (fun e3 => ?_)
      · exact fin
      · refine go_ild_8_3 rfl ?_
        refine go_ald_8_0 rfl ?_
        refine go_getr rfl ⟨_, rfl, rfl, by decide, by decide⟩ ?_
        refine go_geti rfl ⟨_, rfl, rfl, by decide, by decide⟩ ?_
        rw [p1]
        refine go_iclt rfl (fun e4 => ?_) (fun e4 => ?_)
        · exact absurd ⟨⟨Int32.not_lt.mp e, Int32.not_le.mp e2⟩, Int32.not_lt.mp e3, e4⟩ h
        · exact fin
theorem sp_put1 (d : Nat) (s : qb_M) (c : Nat × Nat) {a : Nat} (hS : qS_sh a) {nw : Nat} (p1 : s.1 67 5 = nI nw) (hw : nw ≤ 8) (i o : Nat) (hi : i < nw) (ho : o < nw) (n b : Int32) (R : Option (Option Value × qa_H)) (h1 : qs_bz (qs_so s a) i o = true → some (some (.int (1)), (qb_hp (s), 149, c)) = R) (h2 : ¬ qs_bz (qs_so s a) i o = true → qa_lm (qe (d + 3)) (qa_cd qc_60) (44, [.ref 125, .ref a, .int (nI i), .int (nI o), .int n, .int b, .retAddr 0, .retAddr 0], [], (qb_hp (s), 149, c)) = R) : qe (d + 4) 60 [.ref 125, .ref a, .int (nI i), .int (nI o), .int n, .int b] (qb_hp (s), 149, c) = R := by
  refine (en_60 (d + 3) 125 a (nI i) (nI o) n b _).trans ?_
  refine go_ild_8_2 rfl ?_
  refine go_iflt rfl (fun e => ?_) (fun e => ?_)
  · exact absurd e (nI_pos (by omega))
  · refine go_ild_8_2 rfl ?_
    refine go_ald_8_0 rfl ?_
    refine go_getr rfl ⟨_, rfl, rfl, by decide, by decide⟩ ?_
    refine go_geti rfl ⟨_, rfl, rfl, by decide, by decide⟩ ?_
    rw [p1]
    refine go_icge rfl (fun e2 => ?_) (fun e2 => ?_)
    · exact absurd e2 (nI_ge (by omega) (by omega))
    · refine go_ild_8_3 rfl ?_
      refine go_iflt rfl (fun e3 => ?_) (fun e3 => ?_)
      · exact absurd e3 (nI_pos (by omega))
      · refine go_ild_8_3 rfl ?_
        refine go_ald_8_0 rfl ?_
        refine go_getr rfl ⟨_, rfl, rfl, by decide, by decide⟩ ?_
        refine go_geti rfl ⟨_, rfl, rfl, by decide, by decide⟩ ?_
        rw [p1]
        refine go_iclt rfl (fun e4 => ?_) (fun e4 => ?_)
        · refine go_ald_8_1 rfl ?_
          refine go_ild_8_2 rfl ?_
          refine go_ild_8_3 rfl ?_
          refine go_call3 rfl (sp_isBusyS d s c hS i o (by omega)) (Nat.le_of_ble_eq_true rfl) (qS_v hS) ?_
          refine go_ifeq rfl (fun e5 => ?_) (fun e5 => ?_)
          · exact h2 (qB_0.mp e5)
          · have := h1 (Classical.byContradiction fun z => e5 (qB_f z))
            refine go_c rfl ?_
            exact fin_i rfl rfl (this)
        · exact absurd (nI_lt ho (by omega)) e4
theorem sp_putB (d : Nat) (s : qb_M) (c : Nat × Nat) {a : Nat} (hS : qS_sh a) {nw : Nat} (p1 : s.1 67 5 = nI nw) (hw : nw ≤ 8) (i o : Nat) (hi : i < nw) (ho : o < nw) (n b : Int32) (hb : qs_bz (qs_so s a) i o = true) : qe (d + 4) 60 [.ref 125, .ref a, .int (nI i), .int (nI o), .int n, .int b] (qb_hp (s), 149, c) = some (some (.int (1)), (qb_hp (s), 149, c)) := sp_put1 d s c hS p1 hw i o hi ho n b _ (fun _ => rfl) (fun z => absurd hb z)
theorem qs_bz_on {f : Nat → Int32} {i o : Nat} (h : ¬ qs_bz f i o = true) : ¬ qs_on f i = true := fun z => h (by unfold qs_bz; rw [z]; rfl)
theorem sp_put2 (d : Nat) (s : qb_M) (c : Nat × Nat) {a : Nat} (hS : qS_sh a) (ha : 129 ≤ a) {nw nm : Nat} {lo hi : Nat → Nat} (hp : qP_pl s 67 nw nm lo hi) {V : Nat} (hV : s.1 67 8 = nI V ∧ V ≤ 9) {H X J : Nat} {Lf Sh : Nat → Nat} (hI : qs_in nw nm lo hi (qs_so s a) H X J Lf Sh) (i o : Nat) (hi0 : i < nw) (ho : o < nw) (n : Int32) (b : Bool) (hbz : ¬ qs_bz (qs_so s a) i o = true) (hq : qk_p lo hi nw nm X J (qs_so s a) b V Sh i o (s.1 125 4) (2 ^ nm) = (9, s.1 125 4)) : ∃ t, qe (d + 4) 60 [.ref 125, .ref a, .int (nI i), .int (nI o), .int n, .int (qB (b = true))] (qb_hp (s), 149, c) = some (some (.int (2)), (qb_hp (t), 149, c)) ∧ qs_so t a = qs_so s a ∧ qC_fr a s t := by
  obtain ⟨p1, p2, ⟨p3, p4, p5⟩, p6⟩ := id hp
  obtain ⟨t, k1, k2, k3, k4, k5, k6⟩ := sp_seek d s c hS (by omega) hp hV hI i o hi0 ho (qs_bz_on hbz) b
  rw [hq] at k1
  refine ⟨t, ?_, qs_so_F k6 (fun k hk => by omega), k6.mo (fun x hx => Or.inl hx), k5⟩
  · refine sp_put1 d s c hS p1 p4 i o hi0 ho n _ _ (fun z => absurd z hbz) (fun _ => ?_)
    refine go_ald_8_0 rfl ?_
    refine go_ald_8_1 rfl ?_
    refine go_ild_8_2 rfl ?_
    refine go_ild_8_3 rfl ?_
    refine go_ild_8_5 rfl ?_
    refine go_call5 rfl (k1) (Nat.le_of_ble_eq_true rfl) (qb_qv rfl (by decide) (by decide)) ?_
    rw [qB_f (show ¬ (9 : Nat) ≤ 8 by decide)]
    refine go_ifne rfl (fun e => ?_) (fun e => ?_)
    · refine go_c rfl ?_
      exact fin_i rfl rfl (rfl)
    · exact absurd rfl e
theorem sp_put0 (d : Nat) (s : qb_M) (c : Nat × Nat) {a : Nat} (hS : qS_sh a) (ha : 129 ≤ a) {nw nm : Nat} {lo hi : Nat → Nat} (hp : qP_pl s 67 nw nm lo hi) {V : Nat} (hV : s.1 67 8 = nI V ∧ V ≤ 9) {H X J : Nat} {Lf Sh : Nat → Nat} (hI : qs_in nw nm lo hi (qs_so s a) H X J Lf Sh) (i o : Nat) (hi0 : i < nw) (ho : o < nw) (n : Int32) (b : Bool) (hbz : ¬ qs_bz (qs_so s a) i o = true) {Z : Nat} (hZ : Z < 2 ^ nm) (hq : qk_p lo hi nw nm X J (qs_so s a) b V Sh i o (s.1 125 4) (2 ^ nm) = (qk_ct lo hi nw nm X (qs_so s a) Z, nI Z)) : ∃ t, qe (d + 4) 60 [.ref 125, .ref a, .int (nI i), .int (nI o), .int n, .int (qB (b = true))] (qb_hp (s), 149, c) = some (some (.int (0)), (qb_hp (t), 149, c)) ∧ qs_so t a = qt_cl lo hi nw nm i o n X Z (qs_so s a) ∧ qC_fr a s t := by
  obtain ⟨p1, p2, ⟨p3, p4, p5⟩, p6⟩ := id hp
  obtain ⟨hH, ⟨hX, hX2⟩, ⟨hJ, hJ2⟩, hW⟩ := id hI
  have h10 : 2 ^ nm ≤ 2 ^ 10 := Nat.pow_le_pow_right (by decide) p5
  obtain ⟨t, k1, k2, k3, k4, k5, k6⟩ := sp_seek d s c hS (by omega) hp hV hI i o hi0 ho (qs_bz_on hbz) b
  rw [hq] at k1 k3
  have hct := qk_ct_le (lo := lo) (hi := hi) (nw := nw) (nm := nm) (X := X) (f := qs_so s a) (Y := Z)
  have hso : qs_so t a = qs_so s a := qs_so_F k6 (fun k hk => by omega)
  have hfr : qC_fr a s t := ⟨k6.mo (fun x hx => Or.inl hx), k5⟩
  have hQ : ∀ w, qk_Q lo hi nm X (qs_so s a) w < 1024 := fun w => by
    unfold qk_Q
    split
    · exact Nat.lt_of_lt_of_le (qm_ac_lt _ nm) h10
    · decide
  have hD : X ^^^ Z < 2 ^ nm := Nat.xor_lt_two_pow hX2 hZ
  -- the shifts are counted, call by call
  have loop : ∀ (m w : Nat) (u : qb_M), w + m = nw → qs_so u a = qt_sf (fun c => qs_on (qs_so s a) c && qm_ch lo hi nm X Z c) (qs_so s a) w → qF (fun x => a ≤ x ∧ x < a + 5) t u → ∃ z, qa_lm (qe (d + 3)) (qa_cd qc_60) (72, [.ref 125, .ref a, .int (nI i), .int (nI o), .int n, .int (qB (b = true)), .int (nI (X ^^^ Z)), .int (nI w)], [], (qb_hp (u), 149, c)) = some (some (.int (0)), (qb_hp (z), 149, c)) ∧ qs_so z a = qt_cl lo hi nw nm i o n X Z (qs_so s a) ∧ qF (fun x => a ≤ x ∧ x < a + 5) t z := by
    intro m
    induction m with
    | zero =>
      intro w u hw hv hf
      have hw : w = nw := by omega
      subst hw
      have hX9 : u.1 a 5 = nI X := by rw [qs_so_5, hv, qt_sf_n (by decide) w (Or.inl (by decide))]; exact hX
      obtain ⟨v, g1, g2, g3⟩ := sp_setTo (d + 2) u c hS hX9 (by omega) (Z := Z) (by omega)
      refine ⟨qb_ui (qb_ui (qb_ui (qb_ui v (a + 1) i (nI o)) (a + 2) i n) (a + 3) i 0) a 7 ((qb_ui (qb_ui (qb_ui v (a + 1) i (nI o)) (a + 2) i n) (a + 3) i 0).1 a 7 + 1), ?_, ?_, (((hf.tr g3).ui (by omega)).ui (by omega)).ui (by omega) |>.ui (by omega)⟩
      · refine go_ild_8_7 rfl ?_
        refine go_ald_8_0 rfl ?_
        refine go_getr rfl ⟨_, rfl, rfl, by decide, by decide⟩ ?_
        refine go_geti rfl ⟨_, rfl, rfl, by decide, by decide⟩ ?_
        rw [show u.1 67 5 = nI w from ((hf.i (by omega)).trans (k6.i (by decide))).trans p1]
        refine go_icge rfl (fun e => ?_) (fun e => ?_)
        · refine go_ald_8_1 rfl ?_
          refine go_ald_8_0 rfl ?_
          refine go_geti rfl ⟨_, rfl, rfl, by decide, by decide⟩ ?_
          rw [show u.1 125 4 = nI Z from (hf.i (by omega)).trans k3]
          refine go_call2 rfl (g1) (Nat.le_of_ble_eq_true rfl) (qS_v hS) ?_
          refine go_ald_8_1 rfl ?_
          refine go_getr rfl (qS_f hS rfl) ?_
          refine go_ild_8_2 rfl ?_
          refine go_ild_8_3 rfl ?_
          refine go_iast (j := i) rfl (hS.2.1.1) (rfl) (by omega) ?_
          refine go_ald_8_1 rfl ?_
          refine go_getr rfl (qS_f hS rfl) ?_
          refine go_ild_8_2 rfl ?_
          refine go_ild_8_4 rfl ?_
          refine go_iast (j := i) rfl (hS.2.1.2.1) (rfl) (by omega) ?_
          refine go_ald_8_1 rfl ?_
          refine go_getr rfl (qS_f hS rfl) ?_
          refine go_ild_8_2 rfl ?_
          refine go_c rfl ?_
          refine go_iast (j := i) rfl (hS.2.1.2.2.1) (rfl) (by omega) ?_
          refine go_ald_8_1 rfl ?_
          refine go_dup_ref rfl ?_
          refine go_geti rfl (qS_f hS rfl) ?_
          refine go_c rfl ?_
          refine go_iadd rfl ?_
          refine go_puti rfl (qS_f hS rfl) rfl rfl ?_
          refine go_c rfl ?_
          exact fin_i rfl rfl (rfl)
        · exact absurd (Int32.le_refl _) e
      · rw [qs_so_u7, qs_so_7, qs_so_us (by omega), qs_so_ul (by omega), qs_so_uo (by omega), g2, hv]
        unfold qt_cl
        rw [show 10 = nm + (10 - nm) by omega, qt_tn_more hD]
        rfl
    | succ m ih =>
      intro w u hw hv hf
      have hu : qt_sf (fun c => qs_on (qs_so s a) c && qm_ch lo hi nm X Z c) (qs_so s a) (w + 1) = if (qs_on (qs_so s a) w && qm_ch lo hi nm X Z w) = true then qs_b (qs_b (qt_sf (fun c => qs_on (qs_so s a) c && qm_ch lo hi nm X Z c) (qs_so s a) w) (22 + w)) 4 else qt_sf (fun c => qs_on (qs_so s a) c && qm_ch lo hi nm X Z c) (qs_so s a) w := rfl
      have hand : qk_Q lo hi nm X (qs_so s a) w &&& (X ^^^ Z) < 1024 := Nat.lt_of_le_of_lt Nat.and_le_left (hQ w)
      have hiff : (qs_on (qs_so s a) w && qm_ch lo hi nm X Z w) = true ↔ ¬ nI (qk_Q lo hi nm X (qs_so s a) w &&& (X ^^^ Z)) = 0 := by
        rw [show (0 : Int32) = nI 0 from rfl, nI_eq (by omega) (by decide)]
        unfold qk_Q qm_ch
        by_cases e : qs_on (qs_so s a) w = true
        · rw [if_pos e, e, Bool.true_and, decide_eq_true_eq]
        · rw [if_neg e, eq_false_of_ne_true e, Nat.zero_and]
          simp
      by_cases hb : (qs_on (qs_so s a) w && qm_ch lo hi nm X Z w) = true
      · rw [if_pos hb] at hu
        obtain ⟨z, h1, h2⟩ := ih (w + 1) (qb_ui (qb_ui u (a + 3) w (u.1 (a + 3) w + 1)) a 8 ((qb_ui u (a + 3) w (u.1 (a + 3) w + 1)).1 a 8 + 1)) (by omega) (by
          rw [hu, qs_so_u8, qs_so_8, qs_so_us (by omega), ← qs_so_s (w := w) (by omega), hv]
          rfl) ((hf.ui (by omega)).ui (by omega))
        refine ⟨z, ?_, h2⟩
        refine go_ild_8_7 rfl ?_
        refine go_ald_8_0 rfl ?_
        refine go_getr rfl ⟨_, rfl, rfl, by decide, by decide⟩ ?_
        refine go_geti rfl ⟨_, rfl, rfl, by decide, by decide⟩ ?_
        rw [show u.1 67 5 = nI nw from ((hf.i (by omega)).trans (k6.i (by decide))).trans p1]
        refine go_icge rfl (fun e => ?_) (fun e => ?_)
        · exact absurd e (nI_ge (by omega) (by omega))
        · refine go_ald_8_0 rfl ?_
          refine go_getr rfl ⟨_, rfl, rfl, by decide, by decide⟩ ?_
          refine go_ild_8_7 rfl ?_
          refine go_iald (j := w) rfl (⟨rfl, by decide, by decide, by decide⟩) (rfl) (by omega) ?_
          refine go_ild_8_6 rfl ?_
          refine go_iand rfl ?_
          rw [show u.1 126 w = nI (qk_Q lo hi nm X (qs_so s a) w) from (hf.i (by omega)).trans (k4 w (by omega)), fa_and]
          refine go_ifeq rfl (fun e2 => ?_) (fun e2 => ?_)
          · exact absurd e2 (hiff.mp hb)
          · refine go_ald_8_1 rfl ?_
            refine go_getr rfl (qS_f hS rfl) ?_
            refine go_ild_8_7 rfl ?_
            refine go_dup2 rfl ?_
            refine go_iald (j := w) rfl (hS.2.1.2.2.1) (rfl) (by omega) ?_
            refine go_c rfl ?_
            refine go_iadd rfl ?_
            refine go_iast (j := w) rfl (hS.2.1.2.2.1) (rfl) (by omega) ?_
            refine go_ald_8_1 rfl ?_
            refine go_dup_ref rfl ?_
            refine go_geti rfl (qS_f hS rfl) ?_
            refine go_c rfl ?_
            refine go_iadd rfl ?_
            refine go_puti rfl (qS_f hS rfl) rfl rfl ?_
            refine go_inc_8_7 rfl rfl ?_
            refine go_goto rfl ?_
            rw [nI_1]
            exact h1
      · rw [if_neg hb] at hu
        obtain ⟨z, h1, h2⟩ := ih (w + 1) u (by omega) (by rw [hu]; exact hv) hf
        refine ⟨z, ?_, h2⟩
        refine go_ild_8_7 rfl ?_
        refine go_ald_8_0 rfl ?_
        refine go_getr rfl ⟨_, rfl, rfl, by decide, by decide⟩ ?_
        refine go_geti rfl ⟨_, rfl, rfl, by decide, by decide⟩ ?_
        rw [show u.1 67 5 = nI nw from ((hf.i (by omega)).trans (k6.i (by decide))).trans p1]
        refine go_icge rfl (fun e => ?_) (fun e => ?_)
        · exact absurd e (nI_ge (by omega) (by omega))
        · refine go_ald_8_0 rfl ?_
          refine go_getr rfl ⟨_, rfl, rfl, by decide, by decide⟩ ?_
          refine go_ild_8_7 rfl ?_
          refine go_iald (j := w) rfl (⟨rfl, by decide, by decide, by decide⟩) (rfl) (by omega) ?_
          refine go_ild_8_6 rfl ?_
          refine go_iand rfl ?_
          rw [show u.1 126 w = nI (qk_Q lo hi nm X (qs_so s a) w) from (hf.i (by omega)).trans (k4 w (by omega)), fa_and]
          refine go_ifeq rfl (fun e2 => ?_) (fun e2 => ?_)
          · refine go_inc_8_7 rfl rfl ?_
            refine go_goto rfl ?_
            rw [nI_1]
            exact h1
          · exact absurd (hiff.mpr e2) hb
  obtain ⟨z, h1, h2, h3⟩ := loop nw 0 t (by omega) hso qF.rf
  refine ⟨z, ?_, h2, hfr.tr (qC_fr.st ha h3)⟩
  refine sp_put1 d s c hS p1 p4 i o hi0 ho n _ _ (fun z => absurd z hbz) (fun _ => ?_)
  refine go_ald_8_0 rfl ?_
  refine go_ald_8_1 rfl ?_
  refine go_ild_8_2 rfl ?_
  refine go_ild_8_3 rfl ?_
  refine go_ild_8_5 rfl ?_
  refine go_call5 rfl (k1) (Nat.le_of_ble_eq_true rfl) (qb_qv rfl (by decide) (by decide)) ?_
  rw [qB_t (show qk_ct lo hi nw nm X (qs_so s a) Z ≤ 8 by omega)]
  refine go_ifne rfl (fun e => ?_) (fun e => ?_)
  · exact absurd e (by decide)
  · refine go_ald_8_1 rfl ?_
    refine go_geti rfl (qS_f hS rfl) ?_
    rw [show t.1 a 5 = nI X from by rw [qs_so_5, hso]; exact hX]
    refine go_ald_8_0 rfl ?_
    refine go_geti rfl ⟨_, rfl, rfl, by decide, by decide⟩ ?_
    rw [k3]
    refine go_ixor rfl ?_
    rw [fb_xorI]
    refine go_ist_8_6 rfl rfl ?_
    refine go_c rfl ?_
    refine go_ist_8_7 rfl rfl ?_
    exact h1
theorem sp_ring9 (d : Nat) (s : qb_M) (c : Nat × Nat) {a : Nat} {nw : Nat} (p1 : s.1 67 5 = nI nw) (x : Int32) (h : ¬ (0 ≤ x ∧ x < nI nw)) : qe (d + 1) 72 [.ref 125, .ref a, .int x] (qb_hp (s), 149, c) = some (some (.int (9)), (qb_hp (s), 149, c)) := by
  refine (en_72 d 125 a x _).trans ?_
  have fin : qa_lm (qe (d)) (qa_cd qc_72) (15, [.ref 125, .ref a, .int x], [], (qb_hp (s), 149, c)) = some (some (.int (9)), (qb_hp (s), 149, c)) := by
    refine go_c rfl ?_
    exact fin_i rfl rfl (rfl)
  refine go_ild_3_2 rfl ?_
  refine go_iflt rfl (fun e => ?_) (fun e => ?_)
  · exact fin
  · refine go_ild_3_2 rfl ?_
    refine go_ald_3_0 rfl ?_
    refine go_getr rfl ⟨_, rfl, rfl, by decide, by decide⟩ ?_
    refine go_geti rfl ⟨_, rfl, rfl, by decide, by decide⟩ ?_
    rw [p1]
    refine go_iclt rfl (fun e2 => ?_) (fun e2 => ?_)
    · exact absurd ⟨Int32.not_lt.mp e, e2⟩ h
    · exact fin
theorem sp_ring (d : Nat) (s : qb_M) (c : Nat × Nat) {a : Nat} (hS : qS_sh a) {nw : Nat} (p1 : s.1 67 5 = nI nw) (hw : nw ≤ 8) (i : Nat) (hi : i < nw) : qe (d + 2) 72 [.ref 125, .ref a, .int (nI i)] (qb_hp (s), 149, c) = if qs_on (qs_so s a) i = true then some (some (.int (0)), (qb_hp (qb_ui s (a + 1) i (-1)), 149, c)) else some (some (.int (1)), (qb_hp (s), 149, c)) := by
  refine (en_72 (d + 1) 125 a (nI i) _).trans ?_
  refine go_ild_3_2 rfl ?_
  refine go_iflt rfl (fun e => ?_) (fun e => ?_)
  · exact absurd e (nI_pos (by omega))
  · refine go_ild_3_2 rfl ?_
    refine go_ald_3_0 rfl ?_
    refine go_getr rfl ⟨_, rfl, rfl, by decide, by decide⟩ ?_
    refine go_geti rfl ⟨_, rfl, rfl, by decide, by decide⟩ ?_
    rw [p1]
    refine go_iclt rfl (fun e2 => ?_) (fun e2 => ?_)
    · refine go_ald_3_1 rfl ?_
      refine go_ild_3_2 rfl ?_
      refine go_call2 rfl (sp_isUp d s c hS i (by omega)) (Nat.le_of_ble_eq_true rfl) (qS_v hS) ?_
      refine go_ifne rfl (fun e3 => ?_) (fun e3 => ?_)
      · rw [if_neg (qB_0.mp e3)]
        refine go_c rfl ?_
        exact fin_i rfl rfl (rfl)
      · rw [if_pos (Classical.byContradiction fun z => e3 (qB_f z))]
        refine go_ald_3_1 rfl ?_
        refine go_getr rfl (qS_f hS rfl) ?_
        refine go_ild_3_2 rfl ?_
        refine go_c rfl ?_
        refine go_iast (j := i) rfl (hS.2.1.1) (rfl) (by omega) ?_
        refine go_c rfl ?_
        exact fin_i rfl rfl (rfl)
    · exact absurd (nI_lt hi (by omega)) e2
theorem sp_turnOver (d : Nat) (s : qb_M) (c : Nat × Nat) {a : Nat} (hS : qS_sh a) {nw nm : Nat} {lo hi : Nat → Nat} (hp : qP_pl s 67 nw nm lo hi) {X J : Nat} (hX : s.1 a 5 = nI X) (hX3 : X < 1024) (hJ : s.1 a 6 = nI J) (hJ3 : J < 1024) (k : Nat) (hk : k < nm) : (J.testBit k = true ∧ qe (d + 4) 73 [.ref 125, .ref a, .int (nI k)] (qb_hp (s), 149, c) = some (some (.int (1)), (qb_hp (s), 149, c))) ∨ (¬ J.testBit k = true ∧ (∃ w, w < nw ∧ qs_on (qs_so s a) w = true ∧ qm_th lo hi X w k = true) ∧ qe (d + 4) 73 [.ref 125, .ref a, .int (nI k)] (qb_hp (s), 149, c) = some (some (.int (2)), (qb_hp (s), 149, c))) ∨ (¬ J.testBit k = true ∧ (¬ ∃ w, w < nw ∧ qs_on (qs_so s a) w = true ∧ qm_th lo hi X w k = true) ∧ ∃ t, qe (d + 4) 73 [.ref 125, .ref a, .int (nI k)] (qb_hp (s), 149, c) = some (some (.int (0)), (qb_hp (t), 149, c)) ∧ qs_so t a = qs_u (qt_tn (2 ^ k) (qs_so s a) 10) 1 (nI (X ^^^ 2 ^ k)) ∧ qF (fun x => a ≤ x ∧ x < a + 5) s t) := by
  obtain ⟨p1, p2, ⟨p3, p4, p5⟩, p6⟩ := id hp
  have h10 : 2 ^ nm ≤ 2 ^ 10 := Nat.pow_le_pow_right (by decide) p5
  have hF : qk_F 0 (fun c => qm_ac (qm_th lo hi X c) nm) (qs_on (qs_so s a)) nw < 1024 := Nat.lt_of_lt_of_le (qk_F_lt (Nat.two_pow_pos nm) (fun c => qm_ac_lt _ nm) nw) h10
  have hFb : (qk_F 0 (fun c => qm_ac (qm_th lo hi X c) nm) (qs_on (qs_so s a)) nw).testBit k = true ↔ ∃ w, w < nw ∧ qs_on (qs_so s a) w = true ∧ qm_th lo hi X w k = true := by
    rw [qk_F_bit nw, Nat.zero_testBit]
    constructor
    · rintro (h | ⟨w, h1, h2, h3⟩)
      · exact absurd h (by decide)
      · rw [qm_ac_bit, Bool.and_eq_true] at h3
        exact ⟨w, h1, h2, h3.2⟩
    · rintro ⟨w, h1, h2, h3⟩
      refine Or.inr ⟨w, h1, h2, ?_⟩
      rw [qm_ac_bit, h3, decide_eq_true hk]
      rfl
  have hk2 : 2 ^ k < 1024 := Nat.pow_lt_pow_right (n := 10) (by decide) (by omega)
  have hXk : X ^^^ 2 ^ k < 1024 := Nat.xor_lt_two_pow (n := 10) hX3 hk2
  by_cases hj : J.testBit k = true
  · refine Or.inl ⟨hj, ?_⟩
    refine (en_73 (d + 3) 125 a (nI k) _).trans ?_
    refine go_ald_3_1 rfl ?_
    refine go_geti rfl (qS_f hS rfl) ?_
    rw [hJ]
    refine go_ild_3_2 rfl ?_
    refine go_ishr rfl ?_
    refine go_c rfl ?_
    refine go_iand rfl ?_
    rw [qx_bit (by omega) (by omega)]
    refine go_ifeq rfl (fun e => ?_) (fun e => ?_)
    · exact absurd hj (qx_bit0.mp e)
    · refine go_c rfl ?_
      exact fin_i rfl rfl (rfl)
  · by_cases hu : ∃ w, w < nw ∧ qs_on (qs_so s a) w = true ∧ qm_th lo hi X w k = true
    · refine Or.inr (Or.inl ⟨hj, hu, ?_⟩)
      refine (en_73 (d + 3) 125 a (nI k) _).trans ?_
      refine go_ald_3_1 rfl ?_
      refine go_geti rfl (qS_f hS rfl) ?_
      rw [hJ]
      refine go_ild_3_2 rfl ?_
      refine go_ishr rfl ?_
      refine go_c rfl ?_
      refine go_iand rfl ?_
      rw [qx_bit (by omega) (by omega)]
      refine go_ifeq rfl (fun e => ?_) (fun e => ?_)
      · refine go_ald_3_0 rfl ?_
        refine go_ald_3_1 rfl ?_
        refine go_call2 rfl (sp_inUse d s c hS hp hX hX3) (Nat.le_of_ble_eq_true rfl) (qb_qv rfl (by decide) (by decide)) ?_
        refine go_ild_3_2 rfl ?_
        refine go_ishr rfl ?_
        refine go_c rfl ?_
        refine go_iand rfl ?_
        rw [qx_bit (by omega) (by omega)]
        refine go_ifeq rfl (fun e2 => ?_) (fun e2 => ?_)
        · exact absurd (hFb.mpr hu) (qx_bit0.mp e2)
        · refine go_c rfl ?_
          exact fin_i rfl rfl (rfl)
      · exact absurd (qx_bit0.mpr hj) e
    · obtain ⟨t, g1, g2, g3⟩ := sp_setTo (d + 2) s c hS hX hX3 (Z := X ^^^ 2 ^ k) hXk
      rw [show X ^^^ (X ^^^ 2 ^ k) = 2 ^ k from by rw [← Nat.xor_assoc, Nat.xor_self, Nat.zero_xor]] at g2
      refine Or.inr (Or.inr ⟨hj, hu, t, ?_, g2, g3⟩)
      refine (en_73 (d + 3) 125 a (nI k) _).trans ?_
      refine go_ald_3_1 rfl ?_
      refine go_geti rfl (qS_f hS rfl) ?_
      rw [hJ]
      refine go_ild_3_2 rfl ?_
      refine go_ishr rfl ?_
      refine go_c rfl ?_
      refine go_iand rfl ?_
      rw [qx_bit (by omega) (by omega)]
      refine go_ifeq rfl (fun e => ?_) (fun e => ?_)
      · refine go_ald_3_0 rfl ?_
        refine go_ald_3_1 rfl ?_
        refine go_call2 rfl (sp_inUse d s c hS hp hX hX3) (Nat.le_of_ble_eq_true rfl) (qb_qv rfl (by decide) (by decide)) ?_
        refine go_ild_3_2 rfl ?_
        refine go_ishr rfl ?_
        refine go_c rfl ?_
        refine go_iand rfl ?_
        rw [qx_bit (by omega) (by omega)]
        refine go_ifeq rfl (fun e2 => ?_) (fun e2 => ?_)
        · refine go_ald_3_1 rfl ?_
          refine go_ald_3_1 rfl ?_
          refine go_geti rfl (qS_f hS rfl) ?_
          rw [hX]
          refine go_c rfl ?_
          refine go_ild_3_2 rfl ?_
          refine go_ishl rfl ?_
          refine go_ixor rfl ?_
          rw [qx_1shl k (by omega), fb_xorI]
          refine go_call2 rfl (g1) (Nat.le_of_ble_eq_true rfl) (qS_v hS) ?_
          refine go_c rfl ?_
          exact fin_i rfl rfl (rfl)
        · exact absurd (qx_bit0.mpr (fun z => hu (hFb.mp z))) e2
      · exact absurd (qx_bit0.mpr hj) e
theorem sp_makeJammed (d : Nat) (s : qb_M) (c : Nat × Nat) {a : Nat} (hS : qS_sh a) {J : Nat} (hJ : s.1 a 6 = nI J) (hJ3 : J < 1024) (k : Nat) (hk : k < 10) : qe (d + 1) 75 [.ref 125, .ref a, .int (nI k)] (qb_hp (s), 149, c) = if J.testBit k = true then some (some (.int (1)), (qb_hp (s), 149, c)) else some (some (.int (0)), (qb_hp (qb_ui s a 6 (nI (J ||| 2 ^ k))), 149, c)) := by
  refine (en_75 d 125 a (nI k) _).trans ?_
  refine go_ald_3_1 rfl ?_
  refine go_geti rfl (qS_f hS rfl) ?_
  rw [hJ]
  refine go_ild_3_2 rfl ?_
  refine go_ishr rfl ?_
  refine go_c rfl ?_
  refine go_iand rfl ?_
  rw [qx_bit (by omega) (by omega)]
  refine go_ifeq rfl (fun e => ?_) (fun e => ?_)
  · rw [if_neg (qx_bit0.mp e)]
    refine go_ald_3_1 rfl ?_
    refine go_dup_ref rfl ?_
    refine go_geti rfl (qS_f hS rfl) ?_
    rw [hJ]
    refine go_c rfl ?_
    refine go_ild_3_2 rfl ?_
    refine go_ishl rfl ?_
    refine go_ior rfl ?_
    rw [qx_1shl k (by omega), fa_or]
    refine go_puti rfl (qS_f hS rfl) rfl rfl ?_
    refine go_c rfl ?_
    exact fin_i rfl rfl (rfl)
  · rw [if_pos (Classical.byContradiction fun z => e (qx_bit0.mpr z))]
    refine go_c rfl ?_
    exact fin_i rfl rfl (rfl)
theorem sp_makeFree (d : Nat) (s : qb_M) (c : Nat × Nat) {a : Nat} (hS : qS_sh a) {J : Nat} (hJ : s.1 a 6 = nI J) (hJ3 : J < 1024) (k : Nat) (hk : k < 10) : qe (d + 1) 76 [.ref 125, .ref a, .int (nI k)] (qb_hp (s), 149, c) = if J.testBit k = true then some (some (.int (0)), (qb_hp (qb_ui s a 6 (nI (J ^^^ 2 ^ k))), 149, c)) else some (some (.int (1)), (qb_hp (s), 149, c)) := by
  refine (en_76 d 125 a (nI k) _).trans ?_
  refine go_ald_3_1 rfl ?_
  refine go_geti rfl (qS_f hS rfl) ?_
  rw [hJ]
  refine go_ild_3_2 rfl ?_
  refine go_ishr rfl ?_
  refine go_c rfl ?_
  refine go_iand rfl ?_
  rw [qx_bit (by omega) (by omega)]
  refine go_ifne rfl (fun e => ?_) (fun e => ?_)
  · rw [if_neg (qx_bit0.mp e)]
    refine go_c rfl ?_
    exact fin_i rfl rfl (rfl)
  · have hb : J.testBit k = true := Classical.byContradiction fun z => e (qx_bit0.mpr z)
    rw [if_pos hb]
    refine go_ald_3_1 rfl ?_
    refine go_dup_ref rfl ?_
    refine go_geti rfl (qS_f hS rfl) ?_
    rw [hJ]
    refine go_c rfl ?_
    refine go_ild_3_2 rfl ?_
    refine go_ishl rfl ?_
    refine go_c rfl ?_
    refine go_ixor rfl ?_
    refine go_iand rfl ?_
    have e9 : J &&& (2 ^ k ^^^ (2 ^ 32 - 1)) = J ^^^ 2 ^ k := by
      apply Nat.eq_of_testBit_eq
      intro j
      rw [Nat.testBit_and, Nat.testBit_xor, Nat.testBit_xor, Nat.testBit_two_pow, Nat.testBit_two_pow_sub_one]
      by_cases hj : j < 32
      · by_cases ek : k = j
        · subst ek; simp [hb, hj]
        · simp [ek, hj]
      · rw [Nat.testBit_lt_two_pow (Nat.lt_of_lt_of_le hJ3 (Nat.pow_le_pow_right (n := 2) (i := 10) (by decide) (by omega)))]
        simp
        omega
    rw [qx_1shl k (by omega), qx_not, fa_and, e9]
    refine go_puti rfl (qS_f hS rfl) rfl rfl ?_
    refine go_c rfl ?_
    exact fin_i rfl rfl (rfl)
