/-! acts, in both -/
theorem ca_act (d : Nat) (s : qb_M) (c : Nat × Nat) {x z : Nat} (hr : qs_rg s) (hx : x < 8) (hz : z ≤ 8) (e1 : s.1 83 1 = nI x) (e2 : s.1 83 2 = nI z) (vb a1 a2 a3 a4 : Int32) (K : qb_M → Int32 → qb_M → Prop) (hP : ∀ s1, (∀ k, k < 40 → qs_so s1 145 k = qs_so s 73 k) → qF (fun y => 145 ≤ y ∧ y < 150) s s1 → ∃ r t, qe (d + 6) 59 [.ref 125, .ref 145, .int vb, .int a1, .int a2, .int a3, .int a4] (qb_hp (s1), 149, c) = some (some (.int (r)), (qb_hp (t), 149, c)) ∧ qC_fr 145 s1 t ∧ K s1 r t) : ∃ s1 r t u, K s1 r t ∧ (∀ k, k < 40 → qs_so s1 145 k = qs_so s 73 k) ∧ qe (d + 7) 57 [.ref 64, .int vb, .int a1, .int a2, .int a3, .int a4] (qb_hp (s), 149, c) = some (some (.int (r)), (qb_hp (u), 149, c)) ∧ (r ≠ 0 → qF (fun y => 125 ≤ y ∧ y ≤ 128 ∨ 145 ≤ y ∧ y < 150) s u) ∧ (r = 0 → (∀ k, k < 40 → qs_so u 73 k = qs_so t 145 k) ∧ (∀ k, k < 40 → qs_so u (85 + 5 * x) k = qs_so s 73 k) ∧ (∀ y, y < 8 → y ≠ x → ∀ k, k < 40 → qs_so u (85 + 5 * y) k = qs_so s (85 + 5 * y) k) ∧ u.1 83 1 = nI ((x + 1) % 8) ∧ u.1 83 2 = nI (min (z + 1) 8) ∧ qs_rg u ∧ qF (fun y => 73 ≤ y ∧ y < 78 ∨ 83 ≤ y ∧ y ≤ 128 ∨ 145 ≤ y ∧ y < 150) s u) := by
  obtain ⟨s1, c1, c2, c3⟩ := sp_copyS (d + 5) s c qS_145 qS_73 (by decide)
  obtain ⟨r, t, p1, p2, p3⟩ := hP s1 c2 c3.F
  have hf : qF (fun y => 125 ≤ y ∧ y ≤ 128 ∨ 145 ≤ y ∧ y < 150) s t := (c3.F.mo (fun y hy => Or.inr hy)).tr p2.1
  have hS := qS_145
  by_cases h0 : r = 0
  · subst h0
    have hs7 : ∀ k, qs_so t 73 k = qs_so s 73 k := fun k => by rw [qs_so_F hf (fun k hk => by omega)]
    obtain ⟨u, g1, g2, g3, g4, g5, g6, g7, g8⟩ := sp_settle (d + 3) t c (x := x) (z := z) (fun i hi => (hf.p (by omega)).trans (hr i hi)) hx hz ((hf.i (by omega)).trans e1) ((hf.i (by omega)).trans e2)
    refine ⟨s1, 0, t, u, p3, c2, ?_, fun z => absurd rfl z, fun _ => ⟨g3, fun k hk => (g2 k hk).trans (hs7 k), fun y hy hyx k hk => ?_, g5, g6, fun i hi => ?_, fun y hy => ?_⟩⟩
    · refine (en_57 (d + 6) 64 vb a1 a2 a3 a4 _).trans ?_
      refine go_ald_7_0 rfl ?_
      refine go_getr rfl ⟨_, rfl, rfl, by decide, by decide⟩ ?_
      refine go_ald_7_0 rfl ?_
      refine go_getr rfl ⟨_, rfl, rfl, by decide, by decide⟩ ?_
      refine go_call2 rfl (c1) (Nat.le_of_ble_eq_true rfl) (qS_v hS) ?_
      refine go_ald_7_0 rfl ?_
      refine go_getr rfl ⟨_, rfl, rfl, by decide, by decide⟩ ?_
      refine go_ald_7_0 rfl ?_
      refine go_getr rfl ⟨_, rfl, rfl, by decide, by decide⟩ ?_
      refine go_ild_7_1 rfl ?_
      refine go_ild_7_2 rfl ?_
      refine go_ild_7_3 rfl ?_
      refine go_ild_7_4 rfl ?_
      refine go_ild_7_5 rfl ?_
      refine go_call7 rfl (p1) (Nat.le_of_ble_eq_true rfl) (qb_qv rfl (by decide) (by decide)) ?_
      refine go_ist_7_6 rfl rfl ?_
      refine go_ild_7_6 rfl ?_
      refine go_ifne rfl (fun e => ?_) (fun e => ?_)
      · refine go_ald_7_0 rfl ?_
        refine go_call1 rfl (g1) (Nat.le_of_ble_eq_true rfl) (qb_qv rfl (by decide) (by decide)) ?_
        refine go_ild_7_6 rfl ?_
        exact fin_i rfl rfl (rfl)
      · exact absurd rfl e
    · rw [g4 y hy hyx k, qs_so_F hf (fun k hk => by omega)]
    · rw [g7, hf.p (by omega)]; exact hr i hi
    · refine ⟨funext fun k => (g8 y k (by omega)).trans (hf.i (by omega)), ?_, ?_⟩
      · rw [g7]; exact funext fun k => hf.l (by omega)
      · rw [g7]; exact funext fun k => hf.p (by omega)
  · refine ⟨s1, r, t, t, p3, c2, ?_, fun _ => hf, fun z => absurd z h0⟩
    refine (en_57 (d + 6) 64 vb a1 a2 a3 a4 _).trans ?_
    refine go_ald_7_0 rfl ?_
    refine go_getr rfl ⟨_, rfl, rfl, by decide, by decide⟩ ?_
    refine go_ald_7_0 rfl ?_
    refine go_getr rfl ⟨_, rfl, rfl, by decide, by decide⟩ ?_
    refine go_call2 rfl (c1) (Nat.le_of_ble_eq_true rfl) (qS_v hS) ?_
    refine go_ald_7_0 rfl ?_
    refine go_getr rfl ⟨_, rfl, rfl, by decide, by decide⟩ ?_
    refine go_ald_7_0 rfl ?_
    refine go_getr rfl ⟨_, rfl, rfl, by decide, by decide⟩ ?_
    refine go_ild_7_1 rfl ?_
    refine go_ild_7_2 rfl ?_
    refine go_ild_7_3 rfl ?_
    refine go_ild_7_4 rfl ?_
    refine go_ild_7_5 rfl ?_
    refine go_call7 rfl (p1) (Nat.le_of_ble_eq_true rfl) (qb_qv rfl (by decide) (by decide)) ?_
    refine go_ist_7_6 rfl rfl ?_
    refine go_ild_7_6 rfl ?_
    refine go_ifne rfl (fun e => ?_) (fun e => ?_)
    · exact absurd e h0
    · refine go_ild_7_6 rfl ?_
      exact fin_i rfl rfl (rfl)
theorem ma_act (d : Nat) (s : qb_M) (c : Nat × Nat) {z : Nat} (hz : z ≤ 8) (e : s.1 192 24 = nI z) (vb x to n how r : Int32) (g' : Nat → Int32) (hW : ∃ t, qe (d + 7) 215 [.ref 192, .int vb, .int x, .int to, .int how] (qb_hp (s), 149, c) = some (some (.int (r)), (qb_hp (t), 149, c)) ∧ qm_so t = qm_so s ∧ qM_fr s t) (hL : r = 0 → ∀ t, (∀ k, t.1 194 k = s.1 194 k) → ∃ u, qe (d + 7) 222 [.ref 192, .int vb, .int x, .int to, .int n, .int how] (qb_hp (t), 149, c) = some (none, (qb_hp (u), 149, c)) ∧ qm_so u = g' ∧ qM_fr t u) : ∃ u, qe (d + 8) 214 [.ref 192, .int vb, .int x, .int to, .int n, .int how, .int 1] (qb_hp (s), 149, c) = some (some (.int (r)), (qb_hp (u), 149, c)) ∧ (r ≠ 0 → qm_so u = qm_so s ∧ qM_fr s u) ∧ (r = 0 → qm_so u = g' ∧ u.1 192 24 = nI (min (z + 1) 8) ∧ (∀ k, k < 40 → qm_sn u (min z 7) k = qm_so s k) ∧ (∀ j, j < min z 7 → ∀ k, k < 40 → qm_sn u j k = qm_sn s (if z = 8 then j + 1 else j) k) ∧ qG (fun x k => x = 194 ∧ 30 ≤ k ∧ k < 70 ∨ x = 192 ∧ (k = 24 ∨ k = 26) ∨ x = 197 ∨ x = 204) s u) := by
  obtain ⟨t, w1, w2, w3⟩ := hW
  have h194 : ∀ k, t.1 194 k = s.1 194 k := fun k => by
    by_cases hk : 30 ≤ k ∧ k < 70
    · have := congrFun w2 (k - 30)
      unfold qm_so at this
      rw [show 30 + (k - 30) = k by omega] at this
      exact this
    · exact w3.i (by omega)
  by_cases h0 : r = 0
  · subst h0
    obtain ⟨t2, s1, s2, s3, s4, s5⟩ := sp_snap (d + 6) t c hz ((w3.i (by omega)).trans e)
    obtain ⟨u, l1, l2, l3⟩ := hL rfl t2 (fun k => (s5.i (by omega)).trans (h194 k))
    refine ⟨u, ?_, fun z => absurd rfl z, fun _ => ⟨l2, (l3.i (by omega)).trans s2, fun k hk => ?_, fun j hj k hk => ?_, (w3.mo (fun x k h => by omega)).tr ((s5.mo (fun x k h => by omega)).tr (l3.mo (fun x k h => by omega)))⟩⟩
    · refine (en_214 (d + 7) 192 vb x to n how 1 _).trans ?_
      refine go_ild_8_6 rfl ?_
      refine go_ifne rfl (fun e0 => ?_) (fun e0 => ?_)
      · exact absurd e0 (by decide)
      · refine go_ald_8_0 rfl ?_
        refine go_ild_8_1 rfl ?_
        refine go_ild_8_2 rfl ?_
        refine go_ild_8_3 rfl ?_
        refine go_ild_8_5 rfl ?_
        refine go_call5 rfl (w1) (Nat.le_of_ble_eq_true rfl) (qb_qv rfl (by decide) (by decide)) ?_
        refine go_ist_8_7 rfl rfl ?_
        refine go_ild_8_7 rfl ?_
        refine go_ifeq rfl (fun e1 => ?_) (fun e1 => ?_)
        · refine go_ald_8_0 rfl ?_
          refine go_call1 rfl (s1) (Nat.le_of_ble_eq_true rfl) (qb_qv rfl (by decide) (by decide)) ?_
          refine go_ald_8_0 rfl ?_
          refine go_ild_8_1 rfl ?_
          refine go_ild_8_2 rfl ?_
          refine go_ild_8_3 rfl ?_
          refine go_ild_8_4 rfl ?_
          refine go_ild_8_5 rfl ?_
          refine go_call6 rfl (l1) (Nat.le_of_ble_eq_true rfl) (qb_qv rfl (by decide) (by decide)) ?_
          refine go_c rfl ?_
          exact fin_i rfl rfl (rfl)
        · exact absurd rfl e1
    · rw [← w2, ← s3 k hk]
      exact l3.i (by omega)
    · have h9 : qm_sn t (if z = 8 then j + 1 else j) k = qm_sn s (if z = 8 then j + 1 else j) k := w3.i (by omega)
      rw [← h9, ← s4 j hj k hk]
      exact l3.i (by omega)
  · refine ⟨t, ?_, fun _ => ⟨w2, w3⟩, fun z => absurd z h0⟩
    refine (en_214 (d + 7) 192 vb x to n how 1 _).trans ?_
    refine go_ild_8_6 rfl ?_
    refine go_ifne rfl (fun e0 => ?_) (fun e0 => ?_)
    · exact absurd e0 (by decide)
    · refine go_ald_8_0 rfl ?_
      refine go_ild_8_1 rfl ?_
      refine go_ild_8_2 rfl ?_
      refine go_ild_8_3 rfl ?_
      refine go_ild_8_5 rfl ?_
      refine go_call5 rfl (w1) (Nat.le_of_ble_eq_true rfl) (qb_qv rfl (by decide) (by decide)) ?_
      refine go_ist_8_7 rfl rfl ?_
      refine go_ild_8_7 rfl ?_
      refine go_ifeq rfl (fun e1 => ?_) (fun e1 => ?_)
      · exact absurd e1 h0
      · refine go_ild_8_7 rfl ?_
        exact fin_i rfl rfl (rfl)
/-- an act that is not told as it should be -/
theorem ma_no (d : Nat) (s : qb_M) (c : Nat × Nat) (vb x to n how : Int32) : qe (d + 1) 214 [.ref 192, .int vb, .int x, .int to, .int n, .int how, .int 0] (qb_hp (s), 149, c) = some (some (.int (-1)), (qb_hp (s), 149, c)) := by
  refine (en_214 d 192 vb x to n how 0 _).trans ?_
  refine go_ild_8_6 rfl ?_
  refine go_ifne rfl (fun e0 => ?_) (fun e0 => ?_)
  · refine go_c rfl ?_
    exact fin_i rfl rfl (rfl)
  · exact absurd rfl e0
/-- both behind an act -/
theorem qZ_act {s v u : qb_M} (hZ : qZx s) {nw nm ns V F0 : Nat} {lo hi se : Nat → Nat} (h1 : qZp s 67 194 0 199 0 nw nm ns V F0 lo hi se) (h2 : qZs nw nm lo hi (qs_so s 73) (qm_so s)) (h3 : qZw s 78 194 0 ns) {x z : Nat} (hx : x < 8) (hz : z ≤ 8) (h4 : ∀ j, j < z → qZs nw nm lo hi (qs_so s (85 + 5 * ((x + 8 - z + j) % 8))) (qm_sn s j)) (c1 : ∀ k, k < 40 → qs_so v (85 + 5 * x) k = qs_so s 73 k) (c2 : ∀ y, y < 8 → y ≠ x → ∀ k, k < 40 → qs_so v (85 + 5 * y) k = qs_so s (85 + 5 * y) k) (c3 : v.1 83 1 = nI ((x + 1) % 8)) (c4 : v.1 83 2 = nI (min (z + 1) 8)) (c5 : qs_rg v) (cf : qF (fun y => 73 ≤ y ∧ y < 78 ∨ 83 ≤ y ∧ y ≤ 128 ∨ 145 ≤ y ∧ y < 150) s v) (m1 : u.1 192 24 = nI (min (z + 1) 8)) (m2 : ∀ k, k < 40 → qm_sn u (min z 7) k = qm_so v k) (m3 : ∀ j, j < min z 7 → ∀ k, k < 40 → qm_sn u j k = qm_sn v (if z = 8 then j + 1 else j) k) (mf : qG (fun x k => x = 194 ∧ 30 ≤ k ∧ k < 70 ∨ x = 192 ∧ (k = 0 ∨ k = 24 ∨ k = 26 ∨ k = 35) ∨ x = 197 ∨ x = 198 ∨ x = 204) v u) (hnew : qZs nw nm lo hi (qs_so v 73) (qm_so u)) : qZ u := by
  have hf : qG (fun x k => (73 ≤ x ∧ x < 78 ∨ 83 ≤ x ∧ x ≤ 128 ∨ 145 ≤ x ∧ x < 150) ∨ x = 194 ∧ 30 ≤ k ∧ k < 70 ∨ x = 192 ∧ (k = 0 ∨ k = 24 ∨ k = 26 ∨ k = 35) ∨ x = 197 ∨ x = 198 ∨ x = 204) s u := (cf.G.mo (fun x k h => Or.inl h)).tr (mf.mo (fun x k h => Or.inr h))
  have hsv : ∀ a, a + 5 ≤ 192 → qs_so u a = qs_so v a := fun a ha => qs_so_G mf (fun x k hx => by omega)
  refine ⟨hZ.mv hf (fun x k hx => by unfold qZx_no at hx; omega), nw, nm, ns, V, F0, lo, hi, se, h1.mv hf (fun x k hx => by omega) (fun k _ _ => by omega) (fun k _ _ => by omega), by rw [hsv 73 (by decide)]; exact hnew, h3.mv hf (fun x k hx => by omega) (fun k _ _ => by omega), qZk_new (s := s) (t := v) hx hz (fun i hi => (mf.p (by omega)).trans (c5 i hi)) h4 h2 (fun k hk => by rw [hsv _ (by omega)]; exact c1 k hk) (fun y hy hyx k hk => by rw [hsv _ (by omega)]; exact c2 y hy hyx k hk) ((mf.i (by omega)).trans c3) ((mf.i (by omega)).trans c4) m1 (fun k hk => (m2 k hk).trans (cf.i (by omega))) (fun j hj k hk => (m3 j hj k hk).trans (cf.i (by omega)))⟩
theorem qZ_noact {s v u : qb_M} (hZ : qZ s) (cf : qF (fun y => 125 ≤ y ∧ y ≤ 128 ∨ 145 ≤ y ∧ y < 150) s v) (mf : qG (fun x k => x = 194 ∧ 30 ≤ k ∧ k < 70 ∨ x = 192 ∧ (k = 0 ∨ k = 26 ∨ k = 35) ∨ x = 198 ∨ x = 204) v u) (hv : ∀ k, k < 40 → qm_so u k = qm_so v k) : qZ u := by
  obtain ⟨h0, nw, nm, ns, V, F0, lo, hi, se, h1, h2, h3, h4⟩ := hZ
  have hf : qG (fun x k => (125 ≤ x ∧ x ≤ 128 ∨ 145 ≤ x ∧ x < 150) ∨ x = 194 ∧ 30 ≤ k ∧ k < 70 ∨ x = 192 ∧ (k = 0 ∨ k = 26 ∨ k = 35) ∨ x = 198 ∨ x = 204) s u := (cf.G.mo (fun x k h => Or.inl h)).tr (mf.mo (fun x k h => Or.inr h))
  refine ⟨h0.mv hf (fun x k hx => by unfold qZx_no at hx; omega), nw, nm, ns, V, F0, lo, hi, se, h1.mv hf (fun x k hx => by omega) (fun k _ _ => by omega) (fun k _ _ => by omega), ?_, h3.mv hf (fun x k hx => by omega) (fun k _ _ => by omega), h4.mv hf (fun x k hx => by omega)⟩
  rw [qs_so_G hf (fun x k hx => by omega)]
  exact h2.ex (fun _ _ => rfl) (fun k hk => (hv k hk).trans (cf.i (by omega)))
theorem sp_isWireB (d : Nat) (s : qb_M) (c : Nat × Nat) {nw : Nat} (h0 : s.1 67 5 = nI nw) (v : Int32) : qe (d + 1) 46 [.ref 64, .int v] (qb_hp (s), 149, c) = some (some (.int (qB (0 ≤ v ∧ v < nI nw))), (qb_hp (s), 149, c)) := by
  refine (en_46 d 64 v _).trans ?_
  refine go_ild_2_1 rfl ?_
  refine go_iflt rfl (fun e => ?_) (fun e => ?_)
  · refine go_c rfl ?_
    exact fin_i rfl rfl (qR_i (qB_f (fun z => absurd e (Int32.not_lt.mpr z.1))).symm)
  · refine go_ild_2_1 rfl ?_
    refine go_ald_2_0 rfl ?_
    refine go_getr rfl ⟨_, rfl, rfl, by decide, by decide⟩ ?_
    refine go_geti rfl ⟨_, rfl, rfl, by decide, by decide⟩ ?_
    rw [h0]
    refine go_icge rfl (fun e2 => ?_) (fun e2 => ?_)
    · refine go_c rfl ?_
      exact fin_i rfl rfl (qR_i (qB_f (fun z => absurd e2 (Int32.not_le.mpr z.2))).symm)
    · refine go_c rfl ?_
      refine go_goto rfl ?_
      exact fin_i rfl rfl (qR_i (qB_t ⟨Int32.not_lt.mp e, Int32.not_le.mp e2⟩).symm)
theorem sp_isSwitchB (d : Nat) (s : qb_M) (c : Nat × Nat) {nm : Nat} (h0 : s.1 67 6 = nI nm) (v : Int32) : qe (d + 1) 84 [.ref 64, .int v] (qb_hp (s), 149, c) = some (some (.int (qB (0 ≤ v ∧ v < nI nm))), (qb_hp (s), 149, c)) := by
  refine (en_84 d 64 v _).trans ?_
  refine go_ild_2_1 rfl ?_
  refine go_iflt rfl (fun e => ?_) (fun e => ?_)
  · refine go_c rfl ?_
    exact fin_i rfl rfl (qR_i (qB_f (fun z => absurd e (Int32.not_lt.mpr z.1))).symm)
  · refine go_ild_2_1 rfl ?_
    refine go_ald_2_0 rfl ?_
    refine go_getr rfl ⟨_, rfl, rfl, by decide, by decide⟩ ?_
    refine go_geti rfl ⟨_, rfl, rfl, by decide, by decide⟩ ?_
    rw [h0]
    refine go_icge rfl (fun e2 => ?_) (fun e2 => ?_)
    · refine go_c rfl ?_
      exact fin_i rfl rfl (qR_i (qB_f (fun z => absurd e2 (Int32.not_le.mpr z.2))).symm)
    · refine go_c rfl ?_
      refine go_goto rfl ?_
      exact fin_i rfl rfl (qR_i (qB_t ⟨Int32.not_lt.mp e, Int32.not_le.mp e2⟩).symm)
