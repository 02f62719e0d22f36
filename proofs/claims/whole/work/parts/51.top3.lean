/-! call, hours, undo, shifts -/
theorem qx_in1 {v : Int32} {a b : Nat} (hb : b < 2 ^ 31) (h1 : nI a ≤ v) (h2 : v ≤ nI b) (ha : a < 2 ^ 31) : ∃ j, a ≤ j ∧ j ≤ b ∧ v = nI j := by
  have h0 : ¬ v < 0 := Int32.not_lt.mpr (Int32.le_trans (nI_pos' ha) h1)
  obtain ⟨j, hj, rfl⟩ := nI_of h0
  exact ⟨j, (nI_leI ha hj).mp h1, (nI_leI hj hb).mp h2, rfl⟩
theorem cB_call (d : Nat) (s : qb_M) (c : Nat × Nat) (x y n h : Int32) {nw : Nat} (h0 : s.1 67 5 = nI nw) (R : Option (Option Value × qa_H)) (h1 : ((0 ≤ x ∧ x < nI nw) ∧ (0 ≤ y ∧ y < nI nw) ∧ (1 ≤ n ∧ n ≤ 30) ∧ (h = 0 ∨ h = 1)) → ∃ r t, qe (d + 1) 57 [.ref 64, .int 0, .int x, .int y, .int n, .int h] (qb_hp (s), 149, c) = some (some (.int (r)), (qb_hp (t), 149, c)) ∧ some (some (.int (r)), (qb_hp (t), 149, c)) = R) (h2 : ¬ ((0 ≤ x ∧ x < nI nw) ∧ (0 ≤ y ∧ y < nI nw) ∧ (1 ≤ n ∧ n ≤ 30) ∧ (h = 0 ∨ h = 1)) → some (some (.int (-1)), (qb_hp (s), 149, c)) = R) : qe (d + 2) 56 [.ref 64, .int x, .int y, .int n, .int h] (qb_hp (s), 149, c) = R := by
  have bad : ¬ ((0 ≤ x ∧ x < nI nw) ∧ (0 ≤ y ∧ y < nI nw) ∧ (1 ≤ n ∧ n ≤ 30) ∧ (h = 0 ∨ h = 1)) → qa_lm (qe (d + 1)) (qa_cd qc_56) (42, [.ref 64, .int x, .int y, .int n, .int h, .retAddr 0], [], (qb_hp (s), 149, c)) = R := fun z => by
    have := h2 z
    refine go_c rfl ?_
    refine go_ist_6_5 rfl rfl ?_
    refine go_ild_6_5 rfl ?_
    refine go_ifeq rfl (fun e => ?_) (fun e => ?_)
    · refine go_c rfl ?_
      exact fin_i rfl rfl this
    · exact absurd rfl e
  refine (en_56 (d + 1) 64 x y n h _).trans ?_
  refine go_ald_6_0 rfl ?_
  refine go_ild_6_1 rfl ?_
  refine go_call2 rfl (sp_isWireB d s c h0 _) (Nat.le_of_ble_eq_true rfl) (qb_qv rfl (by decide) (by decide)) ?_
  refine go_ifeq rfl (fun e1 => ?_) (fun e1 => ?_)
  · exact bad (fun z => qB_0.mp e1 z.1)
  · have e1 : 0 ≤ x ∧ x < nI nw := Classical.byContradiction fun z => e1 (qB_f z)
    refine go_ald_6_0 rfl ?_
    refine go_ild_6_2 rfl ?_
    refine go_call2 rfl (sp_isWireB d s c h0 _) (Nat.le_of_ble_eq_true rfl) (qb_qv rfl (by decide) (by decide)) ?_
    refine go_ifeq rfl (fun e2 => ?_) (fun e2 => ?_)
    · exact bad (fun z => qB_0.mp e2 z.2.1)
    · have e2 : 0 ≤ y ∧ y < nI nw := Classical.byContradiction fun z => e2 (qB_f z)
      refine go_ild_6_3 rfl ?_
      refine go_c rfl ?_
      refine go_iclt rfl (fun e3 => ?_) (fun e3 => ?_)
      · exact bad (fun z => absurd e3 (Int32.not_lt.mpr z.2.2.1.1))
      · refine go_ild_6_3 rfl ?_
        refine go_c rfl ?_
        refine go_icgt rfl (fun e4 => ?_) (fun e4 => ?_)
        · exact bad (fun z => absurd e4 (Int32.not_lt.mpr z.2.2.1.2))
        · have good : (h = 0 ∨ h = 1) → qa_lm (qe (d + 1)) (qa_cd qc_56) (38, [.ref 64, .int x, .int y, .int n, .int h, .retAddr 0], [], (qb_hp (s), 149, c)) = R := fun z => by
            obtain ⟨r, t, g1, g2⟩ := h1 ⟨e1, e2, ⟨Int32.not_lt.mp e3, Int32.not_lt.mp e4⟩, z⟩
            refine go_c rfl ?_
            refine go_goto rfl ?_
            refine go_ist_6_5 rfl rfl ?_
            refine go_ild_6_5 rfl ?_
            refine go_ifeq rfl (fun e => ?_) (fun e => ?_)
            · exact absurd e (by decide)
            · refine go_ald_6_0 rfl ?_
              refine go_c rfl ?_
              refine go_ild_6_1 rfl ?_
              refine go_ild_6_2 rfl ?_
              refine go_ild_6_3 rfl ?_
              refine go_ild_6_4 rfl ?_
              refine go_call6 rfl (g1) (Nat.le_of_ble_eq_true rfl) (qb_qv rfl (by decide) (by decide)) ?_
              refine go_goto rfl ?_
              exact fin_i rfl rfl g2
          refine go_ild_6_4 rfl ?_
          refine go_ifeq rfl (fun e5 => ?_) (fun e5 => ?_)
          · exact good (Or.inl e5)
          · refine go_ild_6_4 rfl ?_
            refine go_c rfl ?_
            refine go_icne rfl (fun e6 => ?_) (fun e6 => ?_)
            · exact good (Or.inr e6)
            · exact bad (fun z => z.2.2.2.elim e5 e6)
theorem cM_call (d : Nat) (s : qb_M) (c : Nat × Nat) (x y n h : Int32) {nw : Nat} (h0 : s.1 194 0 = nI nw) (hw1 : 2 ≤ nw) (hw2 : nw ≤ 8) (R : Option (Option Value × qa_H)) (h1 : ((0 ≤ x ∧ x < nI nw) ∧ (0 ≤ y ∧ y < nI nw) ∧ (1 ≤ n ∧ n ≤ 30) ∧ (h = 0 ∨ h = 1)) → ∃ r t, qe (d + 2) 214 [.ref 192, .int 0, .int x, .int y, .int n, .int h, .int 1] (qb_hp (qb_ui s 192 0 0), 149, c) = some (some (.int (r)), (qb_hp (t), 149, c)) ∧ some (some (.int (r)), (qb_hp (t), 149, c)) = R) (h2 : ¬ ((0 ≤ x ∧ x < nI nw) ∧ (0 ≤ y ∧ y < nI nw) ∧ (1 ≤ n ∧ n ≤ 30) ∧ (h = 0 ∨ h = 1)) → some (some (.int (-1)), (qb_hp (qb_ui s 192 0 0), 149, c)) = R) : qe (d + 3) 213 [.ref 192, .int x, .int y, .int n, .int h] (qb_hp (s), 149, c) = R := by
  have h0' : (qb_ui s 192 0 0).1 194 0 = nI nw := (qb_ui_1n (Or.inl (by decide))).trans h0
  have hh : (0 ≤ h ∧ h ≤ 1) ↔ (h = 0 ∨ h = 1) := by
    constructor
    · rintro ⟨a, b⟩
      obtain ⟨j, j1, j2, rfl⟩ := qx_in1 (a := 0) (b := 1) (by decide) a b (by decide)
      rcases (show j = 0 ∨ j = 1 by omega) with e | e <;> subst e
      · exact Or.inl rfl
      · exact Or.inr rfl
    · rintro (e | e) <;> subst e <;> decide
  refine (en_213 (d + 2) 192 x y n h _).trans ?_
  have bad : ¬ ((0 ≤ x ∧ x < nI nw) ∧ (0 ≤ y ∧ y < nI nw) ∧ (1 ≤ n ∧ n ≤ 30) ∧ (h = 0 ∨ h = 1)) → qa_lm (qe (d + 2)) (qa_cd qc_213) (52, [.ref 192, .int x, .int y, .int n, .int h], [.int h, .int n, .int y, .int x, .int 0, .ref 192], (qb_hp (qb_ui s 192 0 0), 149, c)) = R := fun z => by
    have := h2 z
    refine go_c rfl ?_
    refine go_call7 rfl (ma_no (d + 1) _ c _ _ _ _ _) (Nat.le_of_ble_eq_true rfl) (qb_qv rfl (by decide) (by decide)) ?_
    exact fin_i rfl rfl this
  refine go_ald_5_0 rfl ?_
  refine go_c rfl ?_
  refine go_puti rfl ⟨_, rfl, rfl, by decide, by decide⟩ rfl rfl ?_
  refine go_ald_5_0 rfl ?_
  refine go_c rfl ?_
  refine go_ild_5_1 rfl ?_
  refine go_ild_5_2 rfl ?_
  refine go_ild_5_3 rfl ?_
  refine go_ild_5_4 rfl ?_
  refine go_ald_5_0 rfl ?_
  refine go_ild_5_1 rfl ?_
  refine go_call2 rfl (sp_isWire d _ c h0' hw1 hw2 _) (Nat.le_of_ble_eq_true rfl) (qb_qv rfl (by decide) (by decide)) ?_
  refine go_ifeq rfl (fun e1 => ?_) (fun e1 => ?_)
  · exact bad (fun z => qB_0.mp e1 z.1)
  · have e1 : 0 ≤ x ∧ x < nI nw := Classical.byContradiction fun z => e1 (qB_f z)
    refine go_ald_5_0 rfl ?_
    refine go_ild_5_2 rfl ?_
    refine go_call2 rfl (sp_isWire d _ c h0' hw1 hw2 _) (Nat.le_of_ble_eq_true rfl) (qb_qv rfl (by decide) (by decide)) ?_
    refine go_ifeq rfl (fun e2 => ?_) (fun e2 => ?_)
    · exact bad (fun z => qB_0.mp e2 z.2.1)
    · have e2 : 0 ≤ y ∧ y < nI nw := Classical.byContradiction fun z => e2 (qB_f z)
      refine go_ild_5_3 rfl ?_
      refine go_c rfl ?_
      refine go_c rfl ?_
      refine go_call3 rfl (sp_isIn (d + 1) _ _ _ _) (Nat.le_of_ble_eq_true rfl) rfl ?_
      refine go_ifeq rfl (fun e3 => ?_) (fun e3 => ?_)
      · exact bad (fun z => qB_0.mp e3 z.2.2.1)
      · have e3 : 1 ≤ n ∧ n ≤ 30 := Classical.byContradiction fun z => e3 (qB_f z)
        refine go_ild_5_4 rfl ?_
        refine go_c rfl ?_
        refine go_c rfl ?_
        refine go_call3 rfl (sp_isIn (d + 1) _ _ _ _) (Nat.le_of_ble_eq_true rfl) rfl ?_
        refine go_ifeq rfl (fun e4 => ?_) (fun e4 => ?_)
        · exact bad (fun z => qB_0.mp e4 (hh.mpr z.2.2.2))
        · have e4 : 0 ≤ h ∧ h ≤ 1 := Classical.byContradiction fun z => e4 (qB_f z)
          obtain ⟨r, t, g1, g2⟩ := h1 ⟨e1, e2, e3, hh.mp e4⟩
          refine go_c rfl ?_
          refine go_goto rfl ?_
          refine go_call7 rfl (g1) (Nat.le_of_ble_eq_true rfl) (qb_qv rfl (by decide) (by decide)) ?_
          exact fin_i rfl rfl g2
theorem qT_call (d : Nat) (x y n h : Int32) : qT (d + 20) 56 213 [.int x, .int y, .int n, .int h] := by
  intro s c hZ
  obtain ⟨hx0, nw, nm, ns, V, F0, lo, hi, se, h1, h2, h3, h4⟩ := id hZ
  have hw := h1.1
  by_cases hT : (0 ≤ x ∧ x < nI nw) ∧ (0 ≤ y ∧ y < nI nw) ∧ (1 ≤ n ∧ n ≤ 30) ∧ (h = 0 ∨ h = 1)
  · obtain ⟨t1, t2, t3, t4⟩ := id hT
    obtain ⟨i, hi0, hxi⟩ := qx_w (by omega) t1
    obtain ⟨o, ho, hyo⟩ := qx_w (by omega) t2
    obtain ⟨n', hn1, hn2, hnn⟩ := qx_in1 (a := 1) (b := 30) (by decide) t3.1 t3.2 (by decide)
    obtain ⟨b, hb0, hb1⟩ : ∃ b : Bool, (h = 0 ↔ b = false) ∧ (h = 1 ↔ b = true) := by
      rcases t4 with e | e <;> subst e
      · exact ⟨false, by decide, by decide⟩
      · exact ⟨true, by decide, by decide⟩
    obtain ⟨r, t, u, a1, a2, a3, a4⟩ := bo_act (d + 12) (d + 11) s c hZ 0 x y n h (fun nw' nm' ns' V' F0' lo' hi' se' h1' H X J Lf Sh hI s1 m hR hm hf hm2 => by
      have hnw : nw' = nw := (nI_eq (by have := h1'.1; omega) (by omega)).mp (h1'.2.1.1.symm.trans h1.2.1.1)
      subst hnw
      rw [hxi, hyo, hnn]
      have hpm : qm_pl m nw' nm' lo' hi' := by
        have := h1'.m
        unfold qm_pl at this ⊢
        rw [show m.1 194 = s.1 194 from funext hm2]
        exact this
      rw [← hm] at hI
      obtain ⟨r, t, b1, b2, b3, b4, b5⟩ := bo_put (ns := ns') (F0 := F0') (se := se') (d + 13) (d + 12) (d + 11) s1 m c (h1'.c.mv hf (by omega) (by omega) (by omega)) ⟨(hf.i (by omega)).trans h1'.2.1.2.2.2.1, by have := h1'.1; omega⟩ hpm ⟨(hm2 3).trans h1'.2.2.1.2.2.2.1, by have := h1'.1; omega⟩ hR hI i o n' hi0 ho hn1 hn2 h b hb0
      refine ⟨r, t, sp_perf0 (d + 13) s1 c _ _ _ _ hb1 rfl b1, b2, b3, fun h0 => ?_⟩
      obtain ⟨Z, c1, c2, c3, Lf', Sh', c4⟩ := b5 h0
      refine ⟨_, ⟨by rw [c1]; exact c3, H, Z, J, Lf', Sh', c4⟩, fun m' hm' => ?_⟩
      obtain ⟨m2, e1, e2, e3⟩ := c2 m' hm'
      refine ⟨m2, ?_, e2, e3⟩
      refine (en_222 (d + 17) 192 0 (nI i) (nI o) (nI n') h _).trans ?_
      refine go_ild_6_1 rfl ?_
      refine go_sw2 (n := 28) rfl (by decide +kernel) ?_
      refine go_ald_6_0 rfl ?_
      refine go_ild_6_2 rfl ?_
      refine go_ild_6_3 rfl ?_
      refine go_ild_6_4 rfl ?_
      refine go_ild_6_5 rfl ?_
      refine go_call5 rfl (e1) (Nat.le_of_ble_eq_true rfl) (qb_qv rfl (by decide) (by decide)) ?_
      exact fin_v rfl rfl)
    exact ⟨r, t, u, cB_call (d + 18) s c x y n h h1.2.1.1 _ (fun _ => ⟨r, t, a1, rfl⟩) (fun z => absurd hT z), cM_call (d + 17) t c x y n h ((a2.i (by omega)).trans h1.2.2.1.1) (by omega) (by omega) _ (fun _ => ⟨r, u, a3, rfl⟩) (fun z => absurd hT z), a4⟩
  · exact ⟨-1, s, qb_ui s 192 0 0, cB_call (d + 18) s c x y n h h1.2.1.1 _ (fun z => absurd z hT) (fun _ => rfl), cM_call (d + 17) s c x y n h h1.2.2.1.1 (by omega) (by omega) _ (fun z => absurd z hT) (fun _ => rfl), hZ.thr 0⟩
theorem qx_min60 {a b : Nat} (ha : a < 2 ^ 31) (hb : b < 2 ^ 31) : (if nI b < nI a then nI b else nI a) = nI (min a b) := by
  by_cases h : b < a
  · rw [if_pos (nI_lt h ha), Nat.min_eq_right (by omega)]
  · rw [if_neg (nI_nlt (by omega) hb), Nat.min_eq_left (by omega)]
theorem qT_hours (d : Nat) (x : Int32) : qT (d + 20) 87 231 [.int x] := by
  intro s c hZ
  obtain ⟨hx0, nw, nm, ns, V, F0, lo, hi, se, h1, h2, h3, h4⟩ := id hZ
  obtain ⟨hR, H, X, J, Lf, Sh, hI⟩ := id h2
  have hw := h1.1
  have hS := qS_73
  obtain ⟨hH, hH4⟩ := hI.1
  have hHc : qs_so s 73 0 = nI H := (hR.1 0 (by omega) (by omega)).trans hH
  by_cases hT : 1 ≤ x ∧ x ≤ 60
  · obtain ⟨m, hm1, hm2, rfl⟩ := qx_in1 (a := 1) (b := 60) (by decide) hT.1 hT.2 (by decide)
    by_cases h400 : H = 400
    · refine ⟨0, s, qb_ui s 192 0 0, ?_, ?_, hZ.thr 0⟩
      · refine (en_87 (d + 19) 64 (nI m) _).trans ?_
        refine go_ild_3_1 rfl ?_
        refine go_c rfl ?_
        refine go_iclt rfl (fun e => ?_) (fun e => ?_)
        · exact absurd e (Int32.not_lt.mpr hT.1)
        · refine go_ild_3_1 rfl ?_
          refine go_c rfl ?_
          refine go_icle rfl (fun e2 => ?_) (fun e2 => ?_)
          · refine go_ild_3_1 rfl ?_
            refine go_ald_3_0 rfl ?_
            refine go_getr rfl ⟨_, rfl, rfl, by decide, by decide⟩ ?_
            refine go_call1 rfl (sp_hoursLeft (d + 18) s c hS) (Nat.le_of_ble_eq_true rfl) (qS_v hS) ?_
            rw [hHc, qx_400 hH4, h400]
            refine go_min rfl (Nat.le_of_ble_eq_true rfl) ?_
            rw [qx_min60 (by omega) (by decide), show min m (400 - 400) = 0 by omega]
            refine go_ist_3_2 rfl rfl ?_
            refine go_ild_3_2 rfl ?_
            refine go_ifle rfl (fun e3 => ?_) (fun e3 => ?_)
            · refine go_ild_3_2 rfl ?_
              exact fin_i rfl rfl rfl
            · exact absurd (by decide) e3
          · exact absurd hT.2 e2
      · refine (en_231 (d + 19) 192 (nI m) _).trans ?_
        refine go_ald_2_0 rfl ?_
        refine go_c rfl ?_
        refine go_puti rfl ⟨_, rfl, rfl, by decide, by decide⟩ rfl rfl ?_
        refine go_ild_2_1 rfl ?_
        refine go_c rfl ?_
        refine go_c rfl ?_
        refine go_call3 rfl (sp_isIn (d + 18) _ _ _ _) (Nat.le_of_ble_eq_true rfl) rfl ?_
        rw [qB_t (show (1 : Int32) ≤ nI m ∧ nI m ≤ 60 from hT)]
        refine go_ifne rfl (fun e => ?_) (fun e => ?_)
        · exact absurd e (by decide)
        · refine go_ald_2_0 rfl ?_
          refine go_getr rfl ⟨_, rfl, rfl, by decide, by decide⟩ ?_
          refine go_c rfl ?_
          refine go_iald (j := 30) rfl ⟨rfl, by decide, by decide, by decide⟩ rfl (by decide) ?_
          refine go_c rfl ?_
          rw [show (qb_ui s 192 0 0).1 194 30 = nI H from (qb_ui_1n (Or.inl (by decide))).trans hH, h400]
          refine go_icne rfl (fun e2 => ?_) (fun e2 => ?_)
          · refine go_c rfl ?_
            exact fin_i rfl rfl rfl
          · exact absurd rfl e2
    · obtain ⟨K, hK⟩ : ∃ K, min m (400 - H) = K := ⟨_, rfl⟩
      have hK1 : 1 ≤ K := by omega
      have hK2 : H + K ≤ 400 := by omega
      obtain ⟨hrg, xx, z, hxx, hz, e1, e2, e3, h5⟩ := h4
      obtain ⟨s1, r, t, u, ⟨k0, k1⟩, k3, k4, k5, k6⟩ := ca_act (d + 12) s c hrg hxx hz e1 e2 5 0 0 (nI K) 0 (fun s1 r t => r = 0 ∧ qs_so t 145 = qt_hs (qs_so s1 145) K) (fun s1 a1 a2 => by
        obtain ⟨t, b1, b2, b3⟩ := sp_passS (d + 14) s1 c qS_145 (H := H) (m := K) (by rw [qs_so_4, a1 0 (by omega)]; exact hHc) hH4 (by omega) hK2
        exact ⟨0, t, sp_perf5 (d + 13) s1 c _ _ _ _ b1, qC_fr.st (by decide) b3, rfl, b2⟩)
      subst k0
      obtain ⟨f1, f2, f3, f4, f5, f6, f7⟩ := k6 rfl
      obtain ⟨w, g1, g2, g3, g4, g5⟩ := sp_snap (d + 18) (qb_ui u 192 0 0) c hz ((qb_ui_1n (Or.inr (by decide))).trans ((f7.i (by omega)).trans e3))
      have hpw : qm_pl w nw nm lo hi := by
        refine qm_pl.mv (P := fun x => 73 ≤ x ∧ x < 78 ∨ 83 ≤ x ∧ x ≤ 128 ∨ 145 ≤ x ∧ x < 150 ∨ x = 192 ∨ x = 197) h1.m ((f7.mo (fun y hy => by omega)).tr ((qF.rf.ui (by omega)).tr (qG.F (g5.mo (fun x k h => by omega))))) (by omega)
      have hsw : qm_so w = qm_so s := funext fun k => (g5.i (by omega)).trans ((qb_ui_1n (Or.inl (by decide))).trans (f7.i (by omega)))
      obtain ⟨v, l1, l2, l3⟩ := sp_passHours (d + 16) w c hpw (H := H) (m := m) (by rw [hsw]; exact hH) hH4 hm2
      rw [hK] at l1 l2
      obtain ⟨r1, Lf', r2⟩ := qt_hours (nm := nm) (lo := lo) (hi := hi) hw.2.1 (hR.ex k3 (fun _ _ => rfl)) hI K hK2
      refine ⟨nI K, u, v, ?_, ?_, ?_⟩
      · refine (en_87 (d + 19) 64 (nI m) _).trans ?_
        refine go_ild_3_1 rfl ?_
        refine go_c rfl ?_
        refine go_iclt rfl (fun e => ?_) (fun e => ?_)
        · exact absurd e (Int32.not_lt.mpr hT.1)
        · refine go_ild_3_1 rfl ?_
          refine go_c rfl ?_
          refine go_icle rfl (fun e4 => ?_) (fun e4 => ?_)
          · refine go_ild_3_1 rfl ?_
            refine go_ald_3_0 rfl ?_
            refine go_getr rfl ⟨_, rfl, rfl, by decide, by decide⟩ ?_
            refine go_call1 rfl (sp_hoursLeft (d + 18) s c hS) (Nat.le_of_ble_eq_true rfl) (qS_v hS) ?_
            rw [hHc, qx_400 hH4]
            refine go_min rfl (Nat.le_of_ble_eq_true rfl) ?_
            rw [qx_min60 (by omega) (by omega), hK]
            refine go_ist_3_2 rfl rfl ?_
            refine go_ild_3_2 rfl ?_
            refine go_ifle rfl (fun e5 => ?_) (fun e5 => ?_)
            · exact absurd e5 (nI_nle (by omega) (by omega))
            · refine go_ald_3_0 rfl ?_
              refine go_c rfl ?_
              refine go_c rfl ?_
              refine go_c rfl ?_
              refine go_ild_3_2 rfl ?_
              refine go_c rfl ?_
              refine go_call6 rfl (k4) (Nat.le_of_ble_eq_true rfl) (qb_qv rfl (by decide) (by decide)) ?_
              refine go_pop_int rfl ?_
              refine go_ild_3_2 rfl ?_
              exact fin_i rfl rfl rfl
          · exact absurd hT.2 e4
      · refine (en_231 (d + 19) 192 (nI m) _).trans ?_
        refine go_ald_2_0 rfl ?_
        refine go_c rfl ?_
        refine go_puti rfl ⟨_, rfl, rfl, by decide, by decide⟩ rfl rfl ?_
        refine go_ild_2_1 rfl ?_
        refine go_c rfl ?_
        refine go_c rfl ?_
        refine go_call3 rfl (sp_isIn (d + 18) _ _ _ _) (Nat.le_of_ble_eq_true rfl) rfl ?_
        rw [qB_t (show (1 : Int32) ≤ nI m ∧ nI m ≤ 60 from hT)]
        refine go_ifne rfl (fun e => ?_) (fun e => ?_)
        · exact absurd e (by decide)
        · refine go_ald_2_0 rfl ?_
          refine go_getr rfl ⟨_, rfl, rfl, by decide, by decide⟩ ?_
          refine go_c rfl ?_
          refine go_iald (j := 30) rfl ⟨rfl, by decide, by decide, by decide⟩ rfl (by decide) ?_
          refine go_c rfl ?_
          rw [show (qb_ui u 192 0 0).1 194 30 = nI H from (qb_ui_1n (Or.inl (by decide))).trans ((f7.i (by omega)).trans hH)]
          refine go_icne rfl (fun e4 => ?_) (fun e4 => ?_)
          · exact absurd ((nI_eq (b := 400) (by omega) (by decide)).mp e4) h400
          · refine go_ald_2_0 rfl ?_
            refine go_call1 rfl (g1) (Nat.le_of_ble_eq_true rfl) (qb_qv rfl (by decide) (by decide)) ?_
            refine go_ald_2_0 rfl ?_
            refine go_ild_2_1 rfl ?_
            refine go_call2 rfl (l1) (Nat.le_of_ble_eq_true rfl) (qb_qv rfl (by decide) (by decide)) ?_
            exact fin_i rfl rfl rfl
      · refine qZ_act (s := s) (v := u) (u := v) hx0 h1 h2 h3 hxx hz h5 f2 f3 f4 f5 f6 f7 ((l3.i (by omega)).trans g2) (fun k hk => ?_) (fun j hj k hk => ?_) ((show qG (fun x k => x = 194 ∧ 30 ≤ k ∧ k < 70 ∨ x = 192 ∧ (k = 0 ∨ k = 24 ∨ k = 26 ∨ k = 35) ∨ x = 197 ∨ x = 198 ∨ x = 204) u (qb_ui u 192 0 0) from qG.rf.ui (by omega)).tr ((g5.mo (fun x k h => by omega)).tr (l3.mo (fun x k h => by omega)))) ⟨?_, H + K, X, J, Lf', Sh, ?_⟩
        · exact (l3.i (by omega)).trans (g3 k hk)
        · exact (l3.i (by omega)).trans (g4 j hj k hk)
        · rw [l2, hsw]
          exact r1.ex (fun k hk => (f1 k hk).trans (by rw [k1])) (fun _ _ => rfl)
        · rw [l2, hsw]; exact r2
  · refine ⟨-1, s, qb_ui s 192 0 0, ?_, ?_, hZ.thr 0⟩
    · refine (en_87 (d + 19) 64 x _).trans ?_
      refine go_ild_3_1 rfl ?_
      refine go_c rfl ?_
      refine go_iclt rfl (fun e => ?_) (fun e => ?_)
      · refine go_c rfl ?_
        exact fin_i rfl rfl rfl
      · refine go_ild_3_1 rfl ?_
        refine go_c rfl ?_
        refine go_icle rfl (fun e2 => ?_) (fun e2 => ?_)
        · exact absurd ⟨Int32.not_lt.mp e, e2⟩ hT
        · refine go_c rfl ?_
          exact fin_i rfl rfl rfl
    · refine (en_231 (d + 19) 192 x _).trans ?_
      refine go_ald_2_0 rfl ?_
      refine go_c rfl ?_
      refine go_puti rfl ⟨_, rfl, rfl, by decide, by decide⟩ rfl rfl ?_
      refine go_ild_2_1 rfl ?_
      refine go_c rfl ?_
      refine go_c rfl ?_
      refine go_call3 rfl (sp_isIn (d + 18) _ _ _ _) (Nat.le_of_ble_eq_true rfl) rfl ?_
      rw [qB_f hT]
      refine go_ifne rfl (fun e => ?_) (fun e => ?_)
      · refine go_c rfl ?_
        exact fin_i rfl rfl rfl
      · exact absurd rfl e
