/-! the acts of both -/
theorem qZ.thr {s : qb_M} (v : Int32) (h : qZ s) : qZ (qb_ui s 192 0 v) := h.mv (P := fun x k => x = 192 ∧ k = 0) (qG.rf.ui ⟨rfl, rfl⟩) (fun x k hx => by unfold qZ_no qZx_no at hx; omega)
/-- an act that both do alike, or don't -/
theorem bo_act (d d2 : Nat) (s : qb_M) (c : Nat × Nat) (hZ : qZ s) (vb x y n how : Int32) (hyp : ∀ nw nm ns V F0 lo hi se, qZp s 67 194 0 199 0 nw nm ns V F0 lo hi se → ∀ H X J Lf Sh, qs_in nw nm lo hi (qm_so s) H X J Lf Sh → ∀ s1 m : qb_M, qs_R (qs_so s1 145) (qm_so m) → qm_so m = qm_so s → qF (fun y => 145 ≤ y ∧ y < 150) s s1 → (∀ k, m.1 194 k = s.1 194 k) → ∃ r t, qe (d + 6) 59 [.ref 125, .ref 145, .int vb, .int x, .int y, .int n, .int how] (qb_hp (s1), 149, c) = some (some (.int (r)), (qb_hp (t), 149, c)) ∧ qC_fr 145 s1 t ∧ (∃ m1, qe (d2 + 7) 215 [.ref 192, .int vb, .int x, .int y, .int how] (qb_hp (m), 149, c) = some (some (.int (r)), (qb_hp (m1), 149, c)) ∧ qm_so m1 = qm_so m ∧ qM_fr m m1) ∧ (r = 0 → ∃ g', qZs nw nm lo hi (qs_so t 145) g' ∧ ∀ m', (∀ k, m'.1 194 k = m.1 194 k) → ∃ m2, qe (d2 + 7) 222 [.ref 192, .int vb, .int x, .int y, .int n, .int how] (qb_hp (m'), 149, c) = some (none, (qb_hp (m2), 149, c)) ∧ qm_so m2 = g' ∧ qM_fr m' m2)) : ∃ r t u, qe (d + 7) 57 [.ref 64, .int vb, .int x, .int y, .int n, .int how] (qb_hp (s), 149, c) = some (some (.int (r)), (qb_hp (t), 149, c)) ∧ qF (fun y => 73 ≤ y ∧ y < 78 ∨ 83 ≤ y ∧ y ≤ 128 ∨ 145 ≤ y ∧ y < 150) s t ∧ qe (d2 + 8) 214 [.ref 192, .int vb, .int x, .int y, .int n, .int how, .int 1] (qb_hp (qb_ui t 192 0 0), 149, c) = some (some (.int (r)), (qb_hp (u), 149, c)) ∧ qZ u := by
  obtain ⟨hx0, nw, nm, ns, V, F0, lo, hi, se, h1, h2, h3, h4⟩ := id hZ
  obtain ⟨hR, H, X, J, Lf, Sh, hI⟩ := id h2
  obtain ⟨hrg, xx, z, hxx, hz, e1, e2, e3, h5⟩ := h4
  obtain ⟨s1, r, t, u, ⟨k1, k2⟩, k3, k4, k5, k6⟩ := ca_act d s c hrg hxx hz e1 e2 vb x y n how (fun s1 r t => (∀ m : qb_M, qm_so m = qm_so s → (∀ k, m.1 194 k = s.1 194 k) → (∃ m1, qe (d2 + 7) 215 [.ref 192, .int vb, .int x, .int y, .int how] (qb_hp (m), 149, c) = some (some (.int (r)), (qb_hp (m1), 149, c)) ∧ qm_so m1 = qm_so m ∧ qM_fr m m1)) ∧ (∀ m : qb_M, qm_so m = qm_so s → (∀ k, m.1 194 k = s.1 194 k) → (r = 0 → ∃ g', qZs nw nm lo hi (qs_so t 145) g' ∧ ∀ m', (∀ k, m'.1 194 k = m.1 194 k) → ∃ m2, qe (d2 + 7) 222 [.ref 192, .int vb, .int x, .int y, .int n, .int how] (qb_hp (m'), 149, c) = some (none, (qb_hp (m2), 149, c)) ∧ qm_so m2 = g' ∧ qM_fr m' m2))) (fun s1 a1 a2 => by
    have hR1 : ∀ m : qb_M, qm_so m = qm_so s → qs_R (qs_so s1 145) (qm_so m) := fun m hm => hR.ex a1 (fun k _ => by rw [hm])
    obtain ⟨r, t, b1, b2, b3, b4⟩ := hyp nw nm ns V F0 lo hi se h1 H X J Lf Sh hI s1 s (hR1 s rfl) rfl a2 (fun _ => rfl)
    refine ⟨r, t, b1, b2, fun m hm hm2 => ?_, fun m hm hm2 => ?_⟩
    · obtain ⟨r', t', b1', b2', b3', b4'⟩ := hyp nw nm ns V F0 lo hi se h1 H X J Lf Sh hI s1 m (hR1 m hm) hm a2 hm2
      have e9 := b1.symm.trans b1'
      injection e9 with e9
      injection e9 with e9 e10
      injection e9 with e9
      injection e9 with e9
      subst e9
      exact b3'
    · intro h0
      obtain ⟨g', j1, j2⟩ := b4 h0
      exact ⟨g', j1, fun m' hm' => j2 m' (fun k => (hm' k).trans (hm2 k))⟩)
  by_cases h0 : r = 0
  · subst h0
    obtain ⟨f1, f2, f3, f4, f5, f6, f7⟩ := k6 rfl
    have h194 : ∀ k, (qb_ui u 192 0 0).1 194 k = s.1 194 k := fun k => (qb_ui_1n (Or.inl (by decide))).trans (f7.i (by omega))
    have hso : qm_so (qb_ui u 192 0 0) = qm_so s := funext fun k => h194 _
    obtain ⟨g', j1, j2⟩ := k2 (qb_ui u 192 0 0) hso h194 rfl
    obtain ⟨w, l1, l2, l3⟩ := ma_act d2 (qb_ui u 192 0 0) c hz (show (qb_ui u 192 0 0).1 192 24 = nI z from (qb_ui_1n (Or.inr (by decide))).trans ((f7.i (by omega)).trans e3)) vb x y n how 0 g' (k1 _ hso h194) (fun _ => j2)
    obtain ⟨q1, q2, q3, q4, q5⟩ := l3 rfl
    refine ⟨0, u, w, k4, f7, l1, qZ_act (s := s) (v := u) (u := w) hx0 h1 h2 h3 hxx hz h5 f2 f3 f4 f5 f6 f7 q2 q3 q4 ((show qG (fun x k => x = 194 ∧ 30 ≤ k ∧ k < 70 ∨ x = 192 ∧ (k = 0 ∨ k = 24 ∨ k = 26 ∨ k = 35) ∨ x = 197 ∨ x = 198 ∨ x = 204) u (qb_ui u 192 0 0) from qG.rf.ui (by omega)).tr (q5.mo (fun x k h => by omega))) ?_⟩
    rw [q1]
    exact j1.ex f1 (fun _ _ => rfl)
  · have f7 := k5 h0
    have h194 : ∀ k, (qb_ui u 192 0 0).1 194 k = s.1 194 k := fun k => (qb_ui_1n (Or.inl (by decide))).trans (f7.i (by omega))
    have hso : qm_so (qb_ui u 192 0 0) = qm_so s := funext fun k => h194 _
    obtain ⟨w, l1, l2, l3⟩ := ma_act d2 (qb_ui u 192 0 0) c hz (show (qb_ui u 192 0 0).1 192 24 = nI z from (qb_ui_1n (Or.inr (by decide))).trans ((f7.i (by omega)).trans e3)) vb x y n how r (qm_so s) (k1 _ hso h194) (fun z => absurd z h0)
    obtain ⟨q1, q2⟩ := l2 h0
    refine ⟨r, u, w, k4, f7.mo (fun y hy => by omega), l1, ?_⟩
    exact qZ_noact hZ f7 ((show qG (fun x k => x = 194 ∧ 30 ≤ k ∧ k < 70 ∨ x = 192 ∧ (k = 0 ∨ k = 26 ∨ k = 35) ∨ x = 198 ∨ x = 204) u (qb_ui u 192 0 0) from qG.rf.ui (by omega)).tr (q2.mo (fun x k h => by omega))) (fun k _ => congrFun q1 k)
/-- wires and switches told -/
theorem qx_w {v : Int32} {n : Nat} (hn : n < 2 ^ 31) (h : 0 ≤ v ∧ v < nI n) : ∃ j, j < n ∧ v = nI j := (qx_ex hn).mp h
theorem qT_hang (d : Nat) (x : Int32) : qT (d + 20) 82 226 [.int x] := by
  intro s c hZ
  obtain ⟨hx0, nw, nm, ns, V, F0, lo, hi, se, h1, h2, h3, h4⟩ := id hZ
  have hw := h1.1
  have hS := qS_145
  by_cases hx : 0 ≤ x ∧ x < nI nw
  · obtain ⟨i, hi0, rfl⟩ := qx_w (by omega) hx
    obtain ⟨r, t, u, a1, a2, a3, a4⟩ := bo_act (d + 12) (d + 11) s c hZ 1 (nI i) 0 0 0 (fun nw' nm' ns' V' F0' lo' hi' se' h1' H X J Lf Sh hI s1 m hR hm hf hm2 => by
      have hnw : nw' = nw := (nI_eq (by have := h1'.1; omega) (by omega)).mp (h1'.2.1.1.symm.trans h1.2.1.1)
      subst hnw
      have p1 : s1.1 67 5 = nI nw' := (hf.i (by omega)).trans h1'.2.1.1
      have hr := sp_ring (d + 15) s1 c hS p1 (by omega) i hi0
      have hon := hR.on (w := i) (by omega)
      by_cases ho : qs_on (qm_so m) i = true
      · rw [if_pos (hon.trans ho)] at hr
        refine ⟨0, _, sp_perf1 (d + 13) s1 c _ _ _ _ hr, qC_fr.st (by decide) (qF.rf.ui (by decide)), ⟨m, ?_, rfl, qM_fr.rf⟩, fun _ => ⟨qt_me (qm_so m) i, ⟨?_, H, X, J, Lf, Sh, ?_⟩, fun m' hm' => ?_⟩⟩
        · refine (en_215 (d + 17) 192 1 (nI i) 0 0 _).trans ?_
          refine go_ild_5_1 rfl ?_
          refine go_sw2 (n := 63) rfl (by decide +kernel) ?_
          refine go_ald_5_0 rfl ?_
          refine go_ild_5_2 rfl ?_
          refine go_call2 rfl (sp_isOn' (d + 16) m c i (by omega)) (Nat.le_of_ble_eq_true rfl) (qb_qv rfl (by decide) (by decide)) ?_
          rw [qB_t ho]
          refine go_ifeq rfl (fun e => ?_) (fun e => ?_)
          · exact absurd e (by decide)
          · refine go_c rfl ?_
            refine go_goto rfl ?_
            exact fin_i rfl rfl rfl
        · rw [qs_so_uo (by omega)]
          exact hR.end (by omega)
        · rw [hm]; exact hI.end (by omega)
        · obtain ⟨m2, b1, b2, b3⟩ := sp_doEnd (d + 16) m' c i (by omega)
          refine ⟨m2, ?_, by rw [b2, show qm_so m' = qm_so m from funext fun k => hm' _], b3⟩
          refine (en_222 (d + 17) 192 1 (nI i) 0 0 0 _).trans ?_
          refine go_ild_6_1 rfl ?_
          refine go_sw2 (n := 39) rfl (by decide +kernel) ?_
          refine go_ald_6_0 rfl ?_
          refine go_ild_6_2 rfl ?_
          refine go_call2 rfl (b1) (Nat.le_of_ble_eq_true rfl) (qb_qv rfl (by decide) (by decide)) ?_
          exact fin_v rfl rfl
      · rw [if_neg (by rw [hon]; exact ho)] at hr
        refine ⟨1, _, sp_perf1 (d + 13) s1 c _ _ _ _ hr, qC_fr.rf, ⟨m, ?_, rfl, qM_fr.rf⟩, fun z => absurd z (by decide)⟩
        refine (en_215 (d + 17) 192 1 (nI i) 0 0 _).trans ?_
        refine go_ild_5_1 rfl ?_
        refine go_sw2 (n := 63) rfl (by decide +kernel) ?_
        refine go_ald_5_0 rfl ?_
        refine go_ild_5_2 rfl ?_
        refine go_call2 rfl (sp_isOn' (d + 16) m c i (by omega)) (Nat.le_of_ble_eq_true rfl) (qb_qv rfl (by decide) (by decide)) ?_
        rw [qB_f ho]
        refine go_ifeq rfl (fun e => ?_) (fun e => ?_)
        · refine go_c rfl ?_
          exact fin_i rfl rfl rfl
        · exact absurd rfl e)
    refine ⟨r, t, u, ?_, ?_, a4⟩
    · refine (en_82 (d + 19) 64 (nI i) _).trans ?_
      refine go_ald_2_0 rfl ?_
      refine go_ild_2_1 rfl ?_
      refine go_call2 rfl (sp_isWireB (d + 18) s c h1.2.1.1 _) (Nat.le_of_ble_eq_true rfl) (qb_qv rfl (by decide) (by decide)) ?_
      rw [qB_t hx]
      refine go_ifeq rfl (fun e => ?_) (fun e => ?_)
      · exact absurd e (by decide)
      · refine go_ald_2_0 rfl ?_
        refine go_c rfl ?_
        refine go_ild_2_1 rfl ?_
        refine go_c rfl ?_
        refine go_c rfl ?_
        refine go_c rfl ?_
        refine go_call6 rfl (a1) (Nat.le_of_ble_eq_true rfl) (qb_qv rfl (by decide) (by decide)) ?_
        refine go_goto rfl ?_
        exact fin_i rfl rfl rfl
    · refine (en_226 (d + 19) 192 (nI i) _).trans ?_
      refine go_ald_2_0 rfl ?_
      refine go_c rfl ?_
      refine go_puti rfl ⟨_, rfl, rfl, by decide, by decide⟩ rfl rfl ?_
      refine go_ald_2_0 rfl ?_
      refine go_c rfl ?_
      refine go_ild_2_1 rfl ?_
      refine go_c rfl ?_
      refine go_c rfl ?_
      refine go_c rfl ?_
      refine go_ald_2_0 rfl ?_
      refine go_ild_2_1 rfl ?_
      refine go_call2 rfl (sp_isWire (d + 17) (qb_ui t 192 0 0) c (nw := nw) ((qb_ui_1n (Or.inl (by decide))).trans ((a2.i (by omega)).trans h1.2.2.1.1)) (by omega) (by omega) _) (Nat.le_of_ble_eq_true rfl) (qb_qv rfl (by decide) (by decide)) ?_
      rw [qB_t hx]
      refine go_call7 rfl (a3) (Nat.le_of_ble_eq_true rfl) (qb_qv rfl (by decide) (by decide)) ?_
      exact fin_i rfl rfl rfl
  · refine ⟨-1, s, qb_ui s 192 0 0, ?_, ?_, hZ.thr 0⟩
    · refine (en_82 (d + 19) 64 x _).trans ?_
      refine go_ald_2_0 rfl ?_
      refine go_ild_2_1 rfl ?_
      refine go_call2 rfl (sp_isWireB (d + 18) s c h1.2.1.1 _) (Nat.le_of_ble_eq_true rfl) (qb_qv rfl (by decide) (by decide)) ?_
      rw [qB_f hx]
      refine go_ifeq rfl (fun e => ?_) (fun e => ?_)
      · refine go_c rfl ?_
        exact fin_i rfl rfl rfl
      · exact absurd rfl e
    · refine (en_226 (d + 19) 192 x _).trans ?_
      refine go_ald_2_0 rfl ?_
      refine go_c rfl ?_
      refine go_puti rfl ⟨_, rfl, rfl, by decide, by decide⟩ rfl rfl ?_
      refine go_ald_2_0 rfl ?_
      refine go_c rfl ?_
      refine go_ild_2_1 rfl ?_
      refine go_c rfl ?_
      refine go_c rfl ?_
      refine go_c rfl ?_
      refine go_ald_2_0 rfl ?_
      refine go_ild_2_1 rfl ?_
      refine go_call2 rfl (sp_isWire (d + 17) (qb_ui s 192 0 0) c (nw := nw) ((qb_ui_1n (Or.inl (by decide))).trans h1.2.2.1.1) (by omega) (by omega) _) (Nat.le_of_ble_eq_true rfl) (qb_qv rfl (by decide) (by decide)) ?_
      rw [qB_f hx]
      refine go_call7 rfl (ma_no (d + 18) _ c _ _ _ _ _) (Nat.le_of_ble_eq_true rfl) (qb_qv rfl (by decide) (by decide)) ?_
      exact fin_i rfl rfl rfl
