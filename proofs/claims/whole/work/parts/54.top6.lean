/-! feed -/
def qv : Nat → Int32
  | 0 => 24
  | k + 1 => qv k + -8
def qy (w : Int32) (j : Nat) : Int32 := (w.toUInt32 >>> ((qv j).toUInt32 &&& Int32.toUInt32 31)).toInt32 &&& 255
theorem qy_b (w : Int32) (j : Nat) : ∃ b, b < 256 ∧ qy w j = nI b := ⟨_, Nat.mod_lt _ (by decide), pk_and _ (m := 255) 8 (by decide)⟩
def qy_t (s : qb_M) (A o f n : Nat) (w : Int32) : Nat → qb_M
  | 0 => s
  | j + 1 => qb_ui (qb_ui (qy_t s A o f n w j) A (n + j) (qy w j)) o f (nI (n + j + 1))
theorem qy_t_f {s : qb_M} {A o f n : Nat} {w : Int32} (h : s.1 o f = nI n) : ∀ j, (qy_t s A o f n w j).1 o f = nI (n + j)
  | 0 => h
  | _ + 1 => qb_ui_1s
theorem qy_t_G {s : qb_M} {A o f n : Nat} {w : Int32} : ∀ j, qG (fun x k => x = o ∧ k = f ∨ x = A ∧ n ≤ k ∧ k < n + j) s (qy_t s A o f n w j)
  | 0 => qG.rf
  | j + 1 => (((qy_t_G j).mo (fun x k h => by omega)).ui (by omega)).ui (by omega)
theorem qy_t_in {s : qb_M} {A o f n : Nat} {w : Int32} (hA : A ≠ o) : ∀ j i, i < j → (qy_t s A o f n w j).1 A (n + i) = qy w i
  | 0, _, h => by omega
  | j + 1, i, h => by
    show (qb_ui (qb_ui (qy_t s A o f n w j) A (n + j) (qy w j)) o f (nI (n + j + 1))).1 A (n + i) = _
    rw [qb_ui_1n (Or.inl hA)]
    by_cases e : i = j
    · subst e; rw [qb_ui_1s]
    · rw [qb_ui_1n (Or.inr (by omega))]
      exact qy_t_in hA j i (by omega)
theorem qv_p : ∀ j, j < 4 → ¬ qv j < 0 := by decide
theorem sp_append (d : Nat) (s : qb_M) (c : Nat × Nat) {n : Nat} (w : Int32) (hn : n + 4 ≤ 940) (h : s.1 65 1 = nI n) : qe (d + 1) 15 [.ref 65, .int w] (qb_hp (s), 149, c) = some (none, (qb_hp (qy_t s 66 65 1 n w 4), 149, c)) := by
  have loop : ∀ m j, j + m = 4 → qa_lm (qe (d)) (qa_cd qc_15) (3, [.ref 65, .int w, .int (qv j)], [], (qb_hp (qy_t s 66 65 1 n w j), 149, c)) = some (none, (qb_hp (qy_t s 66 65 1 n w 4), 149, c)) := by
    intro m
    induction m with
    | zero =>
      intro j hj
      have hj : j = 4 := by omega
      subst hj
      refine go_ild_3_2 rfl ?_
      refine go_iflt rfl (fun e => ?_) (fun e => ?_)
      · exact fin_v rfl rfl
      · exact absurd (by decide) e
    | succ m ih =>
      intro j hj
      have hf := qy_t_f (A := 66) (w := w) h j
      refine go_ild_3_2 rfl ?_
      refine go_iflt rfl (fun e => ?_) (fun e => ?_)
      · exact absurd e (qv_p j (by omega))
      · refine go_ald_3_0 rfl ?_
        refine go_geti rfl ⟨_, rfl, rfl, by decide, by decide⟩ ?_
        refine go_ald_3_0 rfl ?_
        refine go_getr rfl ⟨_, rfl, rfl, by decide, by decide⟩ ?_
        refine go_len rfl (⟨rfl, by decide, by decide, by decide⟩) ?_
        rw [hf]
        refine go_icge rfl (fun e2 => ?_) (fun e2 => ?_)
        · exact absurd e2 (nI_ge (by omega) (by omega))
        · refine go_ald_3_0 rfl ?_
          refine go_getr rfl ⟨_, rfl, rfl, by decide, by decide⟩ ?_
          refine go_ald_3_0 rfl ?_
          refine go_geti rfl ⟨_, rfl, rfl, by decide, by decide⟩ ?_
          rw [hf]
          refine go_ild_3_1 rfl ?_
          refine go_ild_3_2 rfl ?_
          refine go_iushr rfl ?_
          refine go_c rfl ?_
          refine go_iand rfl ?_
          refine go_iast (j := n + j) rfl (⟨rfl, by decide, by decide, by decide⟩) (rfl) (by omega) ?_
          refine go_ald_3_0 rfl ?_
          refine go_dup_ref rfl ?_
          refine go_geti rfl ⟨_, rfl, rfl, by decide, by decide⟩ ?_
          rw [show (qb_ui (qy_t s 66 65 1 n w j) 66 (n + j) ((w.toUInt32 >>> ((qv j).toUInt32 &&& Int32.toUInt32 31)).toInt32 &&& 255)).1 65 1 = nI (n + j) from (qb_ui_1n (Or.inl (by decide))).trans hf]
          refine go_c rfl ?_
          refine go_iadd rfl ?_
          rw [nI_1]
          refine go_puti rfl ⟨_, rfl, rfl, by decide, by decide⟩ rfl rfl ?_
          refine go_inc_3_2 rfl rfl ?_
          refine go_goto rfl ?_
          exact ih (j + 1) (by omega)
  refine (en_15 d 65 w _).trans ?_
  refine go_c rfl ?_
  refine go_ist_3_2 rfl rfl ?_
  exact loop 4 0 (by omega)
theorem sp_come (d : Nat) (s : qb_M) (c : Nat × Nat) {n : Nat} (w : Int32) (hn : n + 4 ≤ 940) (h : s.1 192 2 = nI n) : qe (d + 1) 163 [.ref 192, .int w] (qb_hp (s), 149, c) = some (none, (qb_hp (qy_t s 193 192 2 n w 4), 149, c)) := by
  have loop : ∀ m j, j + m = 4 → qa_lm (qe (d)) (qa_cd qc_163) (3, [.ref 192, .int w, .int (qv j)], [], (qb_hp (qy_t s 193 192 2 n w j), 149, c)) = some (none, (qb_hp (qy_t s 193 192 2 n w 4), 149, c)) := by
    intro m
    induction m with
    | zero =>
      intro j hj
      have hj : j = 4 := by omega
      subst hj
      refine go_ild_3_2 rfl ?_
      refine go_iflt rfl (fun e => ?_) (fun e => ?_)
      · exact fin_v rfl rfl
      · exact absurd (by decide) e
    | succ m ih =>
      intro j hj
      have hf := qy_t_f (A := 193) (w := w) h j
      refine go_ild_3_2 rfl ?_
      refine go_iflt rfl (fun e => ?_) (fun e => ?_)
      · exact absurd e (qv_p j (by omega))
      · refine go_ald_3_0 rfl ?_
        refine go_getr rfl ⟨_, rfl, rfl, by decide, by decide⟩ ?_
        refine go_ald_3_0 rfl ?_
        refine go_geti rfl ⟨_, rfl, rfl, by decide, by decide⟩ ?_
        rw [hf]
        refine go_ild_3_1 rfl ?_
        refine go_ild_3_2 rfl ?_
        refine go_iushr rfl ?_
        refine go_c rfl ?_
        refine go_iand rfl ?_
        refine go_iast (j := n + j) rfl (⟨rfl, by decide, by decide, by decide⟩) (rfl) (by omega) ?_
        refine go_ald_3_0 rfl ?_
        refine go_dup_ref rfl ?_
        refine go_geti rfl ⟨_, rfl, rfl, by decide, by decide⟩ ?_
        rw [show (qb_ui (qy_t s 193 192 2 n w j) 193 (n + j) ((w.toUInt32 >>> ((qv j).toUInt32 &&& Int32.toUInt32 31)).toInt32 &&& 255)).1 192 2 = nI (n + j) from (qb_ui_1n (Or.inl (by decide))).trans hf]
        refine go_c rfl ?_
        refine go_iadd rfl ?_
        rw [nI_1]
        refine go_puti rfl ⟨_, rfl, rfl, by decide, by decide⟩ rfl rfl ?_
        refine go_inc_3_2 rfl rfl ?_
        refine go_goto rfl ?_
        exact ih (j + 1) (by omega)
  refine (en_163 d 192 w _).trans ?_
  refine go_c rfl ?_
  refine go_ist_3_2 rfl rfl ?_
  exact loop 4 0 (by omega)
def qY (l : List Int32) (j : Nat) : Int32 := qy (l.getD (j / 4) 0) (j % 4)
def qY_P (s t : qb_M) (A o f n k : Nat) (l : List Int32) : Prop := t.1 o f = nI (n + 4 * k) ∧ (∀ j, j < 4 * k → t.1 A (n + j) = qY l j) ∧ qG (fun x i => x = o ∧ i = f ∨ x = A ∧ n ≤ i) s t
theorem qY_s {s t : qb_M} {A o f n k : Nat} {l : List Int32} (hA : A ≠ o) (h : qY_P s t A o f n k l) : qY_P s (qy_t t A o f (n + 4 * k) (l.getD k 0) 4) A o f n (k + 1) l := by
  obtain ⟨h1, h2, h3⟩ := h
  refine ⟨(qy_t_f h1 4).trans (by rw [show n + 4 * k + 4 = n + 4 * (k + 1) by omega]), fun j hj => ?_, h3.tr ((qy_t_G 4).mo (fun x i h => by omega))⟩
  by_cases e : j < 4 * k
  · rw [(qy_t_G 4).i (by omega)]
    exact h2 j e
  · have e1 : j / 4 = k := by omega
    have := qy_t_in (s := t) (A := A) (o := o) (f := f) (n := n + 4 * k) (w := l.getD k 0) hA 4 (j % 4) (Nat.mod_lt _ (by decide))
    rw [show n + 4 * k + j % 4 = n + j by omega] at this
    rw [this]
    unfold qY
    rw [e1]
theorem qZ.tp {P : Nat → Nat → Prop} {s u : qb_M} (h : qZ s) (hf : qG P s u) (hd : ∀ x k, qZ_no x k → ¬ (x = 65 ∧ k = 1 ∨ x = 192 ∧ k = 2 ∨ x = 66 ∨ x = 193) → ¬ P x k) (ht : qZt u) : qZ u := by
  obtain ⟨⟨-, h2, h3, h4, h5, h6⟩, nw, nm, ns, V, F0, lo, hi, se, g1, g2, g3, g4⟩ := h
  refine ⟨⟨ht, h2.mv hf (by decide) (Or.inl rfl) (fun x k hx => hd x k (by unfold qZ_no qZx_no; omega) (by omega)), h3.mv hf (by decide) (Or.inr rfl) (fun x k hx => hd x k (by unfold qZ_no qZx_no; omega) (by omega)), h4.mv hf (fun x k hx => hd x k (by unfold qZ_no qZx_no; omega) (by omega)), h5.mv hf (fun x k hx => hd x k (by unfold qZ_no qZx_no; omega) (by omega)), h6.mv hf (fun x k hx => hd x k (by unfold qZ_no qZx_no; omega) (by omega))⟩, nw, nm, ns, V, F0, lo, hi, se, g1.mv hf (fun x k hx => hd x k (by unfold qZ_no; omega) (by omega)) (fun k _ _ => hd _ _ (by unfold qZ_no; omega) (by omega)) (fun k _ _ => hd _ _ (by unfold qZ_no; omega) (by omega)), ?_, g3.mv hf (fun x k hx => hd x k (by unfold qZ_no; omega) (by omega)) (fun k _ _ => hd _ _ (by unfold qZ_no; omega) (by omega)), g4.mv hf (fun x k hx => hd x k (by unfold qZ_no; omega) (by omega))⟩
  rw [qs_so_G hf (fun x k hx => hd x k (by unfold qZ_no; omega) (by omega)), qm_so_G hf (fun k hk => hd _ _ (by unfold qZ_no; omega) (by omega))]
  exact g2
theorem qT_feed (d : Nat) (x0 x1 x2 x3 x4 : Int32) : qT (d + 20) 14 162 [.int x0, .int x1, .int x2, .int x3, .int x4] := fun s c hZ => by
  obtain ⟨⟨⟨n, n0, n1, n2, n3⟩, hr⟩, hz⟩ := id hZ
  have hc : nI n + 20 ≤ 940 ↔ n + 20 ≤ 940 := by
    rw [show (20 : Int32) = nI 20 from rfl, nI_add]
    exact nI_leI (b := 940) (by omega) (by decide)
  by_cases hx : n + 20 ≤ 940
  · obtain ⟨l, hl⟩ : ∃ l : List Int32, l = [x0, x1, x2, x3, x4] := ⟨_, rfl⟩
    have a0 : qY_P s s 66 65 1 n 0 l := ⟨n1, fun j hj => absurd hj (by omega), qG.rf⟩
    have a1 := qY_s (by decide) a0
    have a2 := qY_s (by decide) a1
    have a3 := qY_s (by decide) a2
    have a4 := qY_s (by decide) a3
    have a5 := qY_s (by decide) a4
    have c0 := sp_append (d + 18) _ c (n := n) (l.getD 0 0) (by omega) a0.1
    have c1 := sp_append (d + 18) _ c (l.getD 1 0) (by omega) a1.1
    have c2 := sp_append (d + 18) _ c (l.getD 2 0) (by omega) a2.1
    have c3 := sp_append (d + 18) _ c (l.getD 3 0) (by omega) a3.1
    have c4 := sp_append (d + 18) _ c (l.getD 4 0) (by omega) a4.1
    generalize hT1 : qy_t s 66 65 1 (n + 4 * 0) (l.getD 0 0) 4 = T1 at a1 a2 a3 a4 a5 c1 c2 c3 c4
    rw [show qy_t s 66 65 1 n (l.getD 0 0) 4 = T1 from hT1] at c0
    generalize hT2 : qy_t T1 66 65 1 (n + 4 * (0 + 1)) (l.getD (0 + 1) 0) 4 = T2 at a2 a3 a4 a5 c2 c3 c4
    rw [show qy_t T1 66 65 1 (n + 4 * (0 + 1)) (l.getD 1 0) 4 = T2 from hT2] at c1
    generalize hT3 : qy_t T2 66 65 1 (n + 4 * (0 + 1 + 1)) (l.getD (0 + 1 + 1) 0) 4 = T3 at a3 a4 a5 c3 c4
    rw [show qy_t T2 66 65 1 (n + 4 * (0 + 1 + 1)) (l.getD 2 0) 4 = T3 from hT3] at c2
    generalize hT4 : qy_t T3 66 65 1 (n + 4 * (0 + 1 + 1 + 1)) (l.getD (0 + 1 + 1 + 1) 0) 4 = T4 at a4 a5 c4
    rw [show qy_t T3 66 65 1 (n + 4 * (0 + 1 + 1 + 1)) (l.getD 3 0) 4 = T4 from hT4] at c3
    generalize hT5 : qy_t T4 66 65 1 (n + 4 * (0 + 1 + 1 + 1 + 1)) (l.getD (0 + 1 + 1 + 1 + 1) 0) 4 = T5 at a5
    rw [show qy_t T4 66 65 1 (n + 4 * (0 + 1 + 1 + 1 + 1)) (l.getD 4 0) 4 = T5 from hT5] at c4
    obtain ⟨t1, t2, t3⟩ := a5
    have hs0 : (qb_ui T5 192 0 0).1 192 2 = nI n := (qb_t0 (by omega)).trans ((t3.i (by omega)).trans n2)
    have b0 : qY_P (qb_ui T5 192 0 0) (qb_ui T5 192 0 0) 193 192 2 n 0 l := ⟨hs0, fun j hj => absurd hj (by omega), qG.rf⟩
    have b1 := qY_s (by decide) b0
    have b2 := qY_s (by decide) b1
    have b3 := qY_s (by decide) b2
    have b4 := qY_s (by decide) b3
    have b5 := qY_s (by decide) b4
    have e0 := sp_come (d + 18) _ c (n := n) (l.getD 0 0) (by omega) b0.1
    have e1 := sp_come (d + 18) _ c (l.getD 1 0) (by omega) b1.1
    have e2 := sp_come (d + 18) _ c (l.getD 2 0) (by omega) b2.1
    have e3 := sp_come (d + 18) _ c (l.getD 3 0) (by omega) b3.1
    have e4 := sp_come (d + 18) _ c (l.getD 4 0) (by omega) b4.1
    generalize hU1 : qy_t (qb_ui T5 192 0 0) 193 192 2 (n + 4 * 0) (l.getD 0 0) 4 = U1 at b1 b2 b3 b4 b5 e1 e2 e3 e4
    rw [show qy_t (qb_ui T5 192 0 0) 193 192 2 n (l.getD 0 0) 4 = U1 from hU1] at e0
    generalize hU2 : qy_t U1 193 192 2 (n + 4 * (0 + 1)) (l.getD (0 + 1) 0) 4 = U2 at b2 b3 b4 b5 e2 e3 e4
    rw [show qy_t U1 193 192 2 (n + 4 * (0 + 1)) (l.getD 1 0) 4 = U2 from hU2] at e1
    generalize hU3 : qy_t U2 193 192 2 (n + 4 * (0 + 1 + 1)) (l.getD (0 + 1 + 1) 0) 4 = U3 at b3 b4 b5 e3 e4
    rw [show qy_t U2 193 192 2 (n + 4 * (0 + 1 + 1)) (l.getD 2 0) 4 = U3 from hU3] at e2
    generalize hU4 : qy_t U3 193 192 2 (n + 4 * (0 + 1 + 1 + 1)) (l.getD (0 + 1 + 1 + 1) 0) 4 = U4 at b4 b5 e4
    rw [show qy_t U3 193 192 2 (n + 4 * (0 + 1 + 1 + 1)) (l.getD 3 0) 4 = U4 from hU4] at e3
    generalize hU5 : qy_t U4 193 192 2 (n + 4 * (0 + 1 + 1 + 1 + 1)) (l.getD (0 + 1 + 1 + 1 + 1) 0) 4 = U5 at b5
    rw [show qy_t U4 193 192 2 (n + 4 * (0 + 1 + 1 + 1 + 1)) (l.getD 4 0) 4 = U5 from hU5] at e4
    obtain ⟨u1, u2, u3⟩ := b5
    subst hl
    refine ⟨nI (n + 20), T5, U5, ?_, ?_, ?_⟩
    · refine (en_14 (d + 19) 64 x0 x1 x2 x3 x4 _).trans ?_
      refine go_ald_6_0 rfl ?_
      refine go_getr rfl ⟨_, rfl, rfl, by decide, by decide⟩ ?_
      refine go_geti rfl ⟨_, rfl, rfl, by decide, by decide⟩ ?_
      refine go_c rfl ?_
      refine go_iadd rfl ?_
      refine go_c rfl ?_
      rw [n1]
      refine go_icle rfl (fun e => ?_) (fun e => ?_)
      · refine go_ald_6_0 rfl ?_
        refine go_getr rfl ⟨_, rfl, rfl, by decide, by decide⟩ ?_
        refine go_ild_6_1 rfl ?_
        refine go_call2 rfl (c0) (Nat.le_of_ble_eq_true rfl) (qb_qv rfl (by decide) (by decide)) ?_
        refine go_ald_6_0 rfl ?_
        refine go_getr rfl ⟨_, rfl, rfl, by decide, by decide⟩ ?_
        refine go_ild_6_2 rfl ?_
        refine go_call2 rfl (c1) (Nat.le_of_ble_eq_true rfl) (qb_qv rfl (by decide) (by decide)) ?_
        refine go_ald_6_0 rfl ?_
        refine go_getr rfl ⟨_, rfl, rfl, by decide, by decide⟩ ?_
        refine go_ild_6_3 rfl ?_
        refine go_call2 rfl (c2) (Nat.le_of_ble_eq_true rfl) (qb_qv rfl (by decide) (by decide)) ?_
        refine go_ald_6_0 rfl ?_
        refine go_getr rfl ⟨_, rfl, rfl, by decide, by decide⟩ ?_
        refine go_ild_6_4 rfl ?_
        refine go_call2 rfl (c3) (Nat.le_of_ble_eq_true rfl) (qb_qv rfl (by decide) (by decide)) ?_
        refine go_ald_6_0 rfl ?_
        refine go_getr rfl ⟨_, rfl, rfl, by decide, by decide⟩ ?_
        refine go_ild_6_5 rfl ?_
        refine go_call2 rfl (c4) (Nat.le_of_ble_eq_true rfl) (qb_qv rfl (by decide) (by decide)) ?_
        refine go_ald_6_0 rfl ?_
        refine go_getr rfl ⟨_, rfl, rfl, by decide, by decide⟩ ?_
        refine go_geti rfl ⟨_, rfl, rfl, by decide, by decide⟩ ?_
        exact fin_i rfl rfl (qR_i t1)
      · exact absurd (hc.mpr hx) e
    · refine (en_162 (d + 19) 192 x0 x1 x2 x3 x4 _).trans ?_
      refine go_ald_6_0 rfl ?_
      refine go_c rfl ?_
      refine go_puti rfl ⟨_, rfl, rfl, by decide, by decide⟩ rfl rfl ?_
      refine go_ald_6_0 rfl ?_
      refine go_geti rfl ⟨_, rfl, rfl, by decide, by decide⟩ ?_
      refine go_c rfl ?_
      refine go_iadd rfl ?_
      refine go_c rfl ?_
      rw [hs0]
      refine go_icle rfl (fun e => ?_) (fun e => ?_)
      · refine go_ald_6_0 rfl ?_
        refine go_ild_6_1 rfl ?_
        refine go_call2 rfl (e0) (Nat.le_of_ble_eq_true rfl) (qb_qv rfl (by decide) (by decide)) ?_
        refine go_ald_6_0 rfl ?_
        refine go_ild_6_2 rfl ?_
        refine go_call2 rfl (e1) (Nat.le_of_ble_eq_true rfl) (qb_qv rfl (by decide) (by decide)) ?_
        refine go_ald_6_0 rfl ?_
        refine go_ild_6_3 rfl ?_
        refine go_call2 rfl (e2) (Nat.le_of_ble_eq_true rfl) (qb_qv rfl (by decide) (by decide)) ?_
        refine go_ald_6_0 rfl ?_
        refine go_ild_6_4 rfl ?_
        refine go_call2 rfl (e3) (Nat.le_of_ble_eq_true rfl) (qb_qv rfl (by decide) (by decide)) ?_
        refine go_ald_6_0 rfl ?_
        refine go_ild_6_5 rfl ?_
        refine go_call2 rfl (e4) (Nat.le_of_ble_eq_true rfl) (qb_qv rfl (by decide) (by decide)) ?_
        refine go_ald_6_0 rfl ?_
        refine go_geti rfl ⟨_, rfl, rfl, by decide, by decide⟩ ?_
        exact fin_i rfl rfl (qR_i u1)
      · exact absurd (hc.mpr hx) e
    · have hf : qG (fun x k => x = 65 ∧ k = 1 ∨ x = 66 ∧ n ≤ k ∨ x = 192 ∧ (k = 0 ∨ k = 2) ∨ x = 193 ∧ n ≤ k) s U5 := (t3.mo (fun x i h => by omega)).tr (((qG.rf.ui (P := fun x k => x = 65 ∧ k = 1 ∨ x = 66 ∧ n ≤ k ∨ x = 192 ∧ (k = 0 ∨ k = 2) ∨ x = 193 ∧ n ≤ k) (by omega))).tr (u3.mo (fun x i h => by omega)))
      refine hZ.tp hf (fun x k hx hx2 => by unfold qZ_no qZx_no at hx; omega) ⟨n + 20, hx, ?_, u1, fun k hk => ?_⟩
      · rw [u3.i (by omega), qb_t0 (by decide)]; exact t1
      · by_cases hkn : k < n
        · rw [hf.i (x := 66) (by omega), hf.i (x := 193) (by omega)]
          exact n3 k hkn
        · have p1 := t2 (k - n) (by omega)
          have p2 := u2 (k - n) (by omega)
          rw [show n + (k - n) = k by omega] at p1 p2
          rw [p2, u3.i (by omega), qb_t0 (by omega), p1]
          exact ⟨rfl, qy_b _ _⟩
  · refine ⟨-1, s, qb_ui s 192 0 0, ?_, ?_, hZ.thr 0⟩
    · refine (en_14 (d + 19) 64 x0 x1 x2 x3 x4 _).trans ?_
      refine go_ald_6_0 rfl ?_
      refine go_getr rfl ⟨_, rfl, rfl, by decide, by decide⟩ ?_
      refine go_geti rfl ⟨_, rfl, rfl, by decide, by decide⟩ ?_
      refine go_c rfl ?_
      refine go_iadd rfl ?_
      refine go_c rfl ?_
      rw [n1]
      refine go_icle rfl (fun e => ?_) (fun e => ?_)
      · exact absurd (hc.mp e) hx
      · refine go_c rfl ?_
        exact fin_i rfl rfl rfl
    · refine (en_162 (d + 19) 192 x0 x1 x2 x3 x4 _).trans ?_
      refine go_ald_6_0 rfl ?_
      refine go_c rfl ?_
      refine go_puti rfl ⟨_, rfl, rfl, by decide, by decide⟩ rfl rfl ?_
      refine go_ald_6_0 rfl ?_
      refine go_geti rfl ⟨_, rfl, rfl, by decide, by decide⟩ ?_
      refine go_c rfl ?_
      refine go_iadd rfl ?_
      refine go_c rfl ?_
      rw [show (qb_ui s 192 0 0).1 192 2 = nI n from (qb_t0 (by omega)).trans n2]
      refine go_icle rfl (fun e => ?_) (fun e => ?_)
      · exact absurd (hc.mp e) hx
      · refine go_c rfl ?_
        exact fin_i rfl rfl rfl
/-! undo -/
theorem sp_undoM (d : Nat) (m : qb_M) (c : Nat × Nat) {z : Nat} (hz : z < 8) (h : m.1 192 24 = nI z) : ∀ n k, k + n = 40 → qa_lm (qe (d)) (qa_cd qc_230) (26, [.ref 192, .int (nI k)], [], (qb_hp (qb_wr m 194 30 k (fun k => m.1 197 (40 * z + k))), 149, c)) = some (some (.int (nI z)), (qb_hp (qb_wr m 194 30 40 (fun k => m.1 197 (40 * z + k))), 149, c)) := by
  intro n
  induction n with
  | zero =>
    intro k hk
    have hk : k = 40 := by omega
    subst hk
    refine go_ild_2_1 rfl ?_
    refine go_c rfl ?_
    refine go_icge rfl (fun e => ?_) (fun e => ?_)
    · refine go_ald_2_0 rfl ?_
      refine go_geti rfl ⟨_, rfl, rfl, by decide, by decide⟩ ?_
      exact fin_i rfl rfl (qR_i ((qb_wr_o (Or.inl (by decide))).trans h))
    · exact absurd (by decide) e
  | succ n ih =>
    intro k hk
    refine go_ild_2_1 rfl ?_
    refine go_c rfl ?_
    refine go_icge rfl (fun e => ?_) (fun e => ?_)
    · exact absurd e (nI_ge (b := 40) (by omega) (by omega))
    · refine go_ald_2_0 rfl ?_
      refine go_getr rfl ⟨_, rfl, rfl, by decide, by decide⟩ ?_
      refine go_c rfl ?_
      refine go_ild_2_1 rfl ?_
      refine go_iadd rfl ?_
      refine go_ald_2_0 rfl ?_
      refine go_getr rfl ⟨_, rfl, rfl, by decide, by decide⟩ ?_
      refine go_c rfl ?_
      refine go_ald_2_0 rfl ?_
      refine go_geti rfl ⟨_, rfl, rfl, by decide, by decide⟩ ?_
      rw [show (qb_wr m 194 30 k (fun k => m.1 197 (40 * z + k))).1 192 24 = nI z from (qb_wr_o (Or.inl (by decide))).trans h]
      refine go_imul rfl ?_
      refine go_ild_2_1 rfl ?_
      refine go_iadd rfl ?_
      refine go_iald (j := 40 * z + k) rfl (⟨rfl, by decide, by decide, by decide⟩) (qx_mul40) (by omega) ?_
      refine go_iast (j := 30 + k) rfl (⟨rfl, by decide, by decide, by decide⟩) (nI_add 30 k) (by omega) ?_
      refine go_inc_2_1 rfl rfl ?_
      refine go_goto rfl ?_
      rw [nI_1, qb_wr_s (g := fun k => m.1 197 (40 * z + k)) rfl (show (qb_wr m 194 30 k (fun k => m.1 197 (40 * z + k))).1 197 (40 * z + k) = (fun k => m.1 197 (40 * z + k)) k from qb_wr_o (Or.inl (by decide)))]
      exact ih (k + 1) (by omega)
theorem qT_undo (d : Nat) : qT (d + 20) 88 230 [] := fun s c hZ => by
  obtain ⟨hx0, nw, nm, ns, V, F0, lo, hi, se, h1, h2, h3, h4⟩ := id hZ
  obtain ⟨hrg, xx, z, hxx, hz, e1, e2, e3, h5⟩ := h4
  have hS := qS_73
  rcases Nat.eq_zero_or_pos z with hz0 | hz0
  · subst hz0
    refine ⟨-1, s, qb_ui s 192 0 0, ?_, ?_, hZ.thr 0⟩
    · have hb : qe (d + 19) 89 [.ref 83, .ref 73] (qb_hp (s), 149, c) = some (some (.int (0)), (qb_hp (s), 149, c)) := by
        refine (en_89 (d + 18) 83 73 _).trans ?_
        refine go_ald_2_0 rfl ?_
        refine go_geti rfl ⟨_, rfl, rfl, by decide, by decide⟩ ?_
        rw [e2]
        refine go_ifne rfl (fun e => ?_) (fun e => ?_)
        · refine go_c rfl ?_
          exact fin_i rfl rfl rfl
        · exact absurd rfl e
      refine (en_88 (d + 19) 64 _).trans ?_
      refine go_ald_1_0 rfl ?_
      refine go_getr rfl ⟨_, rfl, rfl, by decide, by decide⟩ ?_
      refine go_ald_1_0 rfl ?_
      refine go_getr rfl ⟨_, rfl, rfl, by decide, by decide⟩ ?_
      refine go_call2 rfl (hb) (Nat.le_of_ble_eq_true rfl) (qb_qv rfl (by decide) (by decide)) ?_
      refine go_ifeq rfl (fun e => ?_) (fun e => ?_)
      · refine go_c rfl ?_
        exact fin_i rfl rfl rfl
      · exact absurd rfl e
    · refine (en_230 (d + 19) 192 _).trans ?_
      refine go_ald_2_0 rfl ?_
      refine go_c rfl ?_
      refine go_puti rfl ⟨_, rfl, rfl, by decide, by decide⟩ rfl rfl ?_
      refine go_ald_2_0 rfl ?_
      refine go_geti rfl ⟨_, rfl, rfl, by decide, by decide⟩ ?_
      rw [show (qb_ui s 192 0 0).1 192 24 = nI 0 from (qb_t0 (by omega)).trans e3]
      refine go_ifne rfl (fun e => ?_) (fun e => ?_)
      · refine go_c rfl ?_
        exact fin_i rfl rfl rfl
      · exact absurd rfl e
  · obtain ⟨y, rfl⟩ : ∃ y, z = y + 1 := ⟨z - 1, by omega⟩
    obtain ⟨t, t1, t2, t3, t4, t5, t6⟩ := sp_takeBackP (d + 17) s c hrg hxx (show y < 8 by omega) e1 e2
    have hm : (qb_ui (qb_ui t 192 0 0) 192 24 (nI y)).1 192 24 = nI y := qb_ui_1s
    have hl := sp_undoM (d + 19) (qb_ui (qb_ui t 192 0 0) 192 24 (nI y)) c (by omega) hm 40 0 (by omega)
    rw [qb_wr_0] at hl
    refine ⟨nI y, t, qb_wr (qb_ui (qb_ui t 192 0 0) 192 24 (nI y)) 194 30 40 (fun k => (qb_ui (qb_ui t 192 0 0) 192 24 (nI y)).1 197 (40 * y + k)), ?_, (en_230 (d + 19) 192 _).trans ?_, ?_⟩
    · refine (en_88 (d + 19) 64 _).trans ?_
      refine go_ald_1_0 rfl ?_
      refine go_getr rfl ⟨_, rfl, rfl, by decide, by decide⟩ ?_
      refine go_ald_1_0 rfl ?_
      refine go_getr rfl ⟨_, rfl, rfl, by decide, by decide⟩ ?_
      refine go_call2 rfl (t1) (Nat.le_of_ble_eq_true rfl) (qb_qv rfl (by decide) (by decide)) ?_
      refine go_ifeq rfl (fun e => ?_) (fun e => ?_)
      · exact absurd e (by decide)
      · refine go_ald_1_0 rfl ?_
        refine go_getr rfl ⟨_, rfl, rfl, by decide, by decide⟩ ?_
        refine go_geti rfl ⟨_, rfl, rfl, by decide, by decide⟩ ?_
        refine go_goto rfl ?_
        exact fin_i rfl rfl (qR_i t4)
    · refine go_ald_2_0 rfl ?_
      refine go_c rfl ?_
      refine go_puti rfl ⟨_, rfl, rfl, by decide, by decide⟩ rfl rfl ?_
      refine go_ald_2_0 rfl ?_
      refine go_geti rfl ⟨_, rfl, rfl, by decide, by decide⟩ ?_
      rw [show (qb_ui t 192 0 0).1 192 24 = nI (y + 1) from (qb_t0 (by omega)).trans ((t6 _ _ (by omega)).trans e3)]
      refine go_ifne rfl (fun e => ?_) (fun e => ?_)
      · exact absurd e (nI_ne0 (by omega) (by omega))
      · refine go_ald_2_0 rfl ?_
        refine go_dup_ref rfl ?_
        refine go_geti rfl ⟨_, rfl, rfl, by decide, by decide⟩ ?_
        rw [show (qb_ui t 192 0 0).1 192 24 = nI (y + 1) from (qb_t0 (by omega)).trans ((t6 _ _ (by omega)).trans e3)]
        refine go_c rfl ?_
        refine go_isub rfl ?_
        rw [nI_pred]
        refine go_puti rfl ⟨_, rfl, rfl, by decide, by decide⟩ rfl rfl ?_
        refine go_c rfl ?_
        refine go_ist_2_1 rfl rfl ?_
        exact hl
    · have hft : qG (fun x k => 73 ≤ x ∧ x < 78 ∨ x = 83 ∨ x = 192 ∧ (k = 0 ∨ k = 24) ∨ x = 194 ∧ 30 ≤ k ∧ k < 70) s t := fun x k hx => ⟨t6 x k (by omega), by rw [t5], by rw [t5]⟩
      have hf : qG (fun x k => 73 ≤ x ∧ x < 78 ∨ x = 83 ∨ x = 192 ∧ (k = 0 ∨ k = 24) ∨ x = 194 ∧ 30 ≤ k ∧ k < 70) s (qb_wr (qb_ui (qb_ui t 192 0 0) 192 24 (nI y)) 194 30 40 (fun k => (qb_ui (qb_ui t 192 0 0) 192 24 (nI y)).1 197 (40 * y + k))) := ((hft.ui (by omega)).ui (by omega)).wr (fun k _ _ => by omega)
      have hg : qG (fun x k => x = 192 ∨ x = 194) t (qb_wr (qb_ui (qb_ui t 192 0 0) 192 24 (nI y)) 194 30 40 (fun k => (qb_ui (qb_ui t 192 0 0) 192 24 (nI y)).1 197 (40 * y + k))) := ((qG.rf.ui (by omega)).ui (by omega)).wr (fun k _ _ => by omega)
      generalize hu : qb_wr (qb_ui (qb_ui t 192 0 0) 192 24 (nI y)) 194 30 40 (fun k => (qb_ui (qb_ui t 192 0 0) 192 24 (nI y)).1 197 (40 * y + k)) = u at hf hg
      refine ⟨hx0.mv hf (fun x k hx => by unfold qZx_no at hx; omega), nw, nm, ns, V, F0, lo, hi, se, h1.mv hf (fun x k hx => by omega) (fun k _ _ => by omega) (fun k _ _ => by omega), ?_, h3.mv hf (fun x k hx => by omega) (fun k _ _ => by omega), fun i hi => (hf.p (by omega)).trans (hrg i hi), (xx + 7) % 8, y, Nat.mod_lt _ (by decide), by omega, (hg.i (by omega)).trans t3, (hg.i (by omega)).trans t4, ?_, fun j hj => ?_⟩
      · have h9 := h5 y (by omega)
        rw [show (xx + 8 - (y + 1) + y) % 8 = (xx + 7) % 8 by omega] at h9
        refine h9.ex (fun k hk => ?_) (fun k hk => ?_)
        · rw [qs_so_G hg (fun x k hx => by omega)]
          exact t2 k hk
        · subst hu
          refine (qb_wr_in hk).trans ?_
          show (qb_ui (qb_ui t 192 0 0) 192 24 (nI y)).1 197 (40 * y + k) = s.1 197 (40 * y + k)
          rw [qb_ui_1n (Or.inl (by decide)), qb_ui_1n (Or.inl (by decide))]
          exact t6 _ _ (by omega)
      · subst hu
        rw [qb_wr_o (Or.inl (by decide)), qb_ui_1s]
      · rw [show ((xx + 7) % 8 + 8 - y + j) % 8 = (xx + 8 - (y + 1) + j) % 8 by omega]
        refine (h5 j (by omega)).ex (fun k hk => ?_) (fun k hk => hf.i (by omega))
        rw [qs_so_G hf (fun x k hx => by omega)]
/-! shifts -/
theorem cB_shifts (d : Nat) (s : qb_M) (c : Nat × Nat) (x y : Int32) {nw : Nat} (h0 : s.1 67 5 = nI nw) (R : Option (Option Value × qa_H)) (h1 : (0 ≤ x ∧ x < nI nw) ∧ (0 ≤ y ∧ y < nI nw) → qa_lm (qe (d + 1)) (qa_cd qc_90) (16, [.ref 64, .int x, .int y], [], (qb_hp (s), 149, c)) = R) (h2 : ¬ ((0 ≤ x ∧ x < nI nw) ∧ (0 ≤ y ∧ y < nI nw)) → some (some (.int (-1)), (qb_hp (s), 149, c)) = R) : qe (d + 2) 90 [.ref 64, .int x, .int y] (qb_hp (s), 149, c) = R := by
  refine (en_90 (d + 1) 64 x y _).trans ?_
  refine go_ald_3_0 rfl ?_
  refine go_ild_3_1 rfl ?_
  refine go_call2 rfl (sp_isWireB d s c h0 _) (Nat.le_of_ble_eq_true rfl) (qb_qv rfl (by decide) (by decide)) ?_
  refine go_ifeq rfl (fun e1 => ?_) (fun e1 => ?_)
  · have := h2 (fun z => qB_0.mp e1 z.1)
    refine go_c rfl ?_
    exact fin_i rfl rfl this
  · have e1 : 0 ≤ x ∧ x < nI nw := Classical.byContradiction fun z => e1 (qB_f z)
    refine go_ald_3_0 rfl ?_
    refine go_ild_3_2 rfl ?_
    refine go_call2 rfl (sp_isWireB d s c h0 _) (Nat.le_of_ble_eq_true rfl) (qb_qv rfl (by decide) (by decide)) ?_
    refine go_ifeq rfl (fun e2 => ?_) (fun e2 => ?_)
    · have := h2 (fun z => qB_0.mp e2 z.2)
      refine go_c rfl ?_
      exact fin_i rfl rfl this
    · exact h1 ⟨e1, Classical.byContradiction fun z => e2 (qB_f z)⟩
theorem cM_shifts (d : Nat) (s : qb_M) (c : Nat × Nat) (x y : Int32) {nw : Nat} (h0 : s.1 194 0 = nI nw) (hw1 : 2 ≤ nw) (hw2 : nw ≤ 8) (R : Option (Option Value × qa_H)) (h1 : (0 ≤ x ∧ x < nI nw) ∧ (0 ≤ y ∧ y < nI nw) → qa_lm (qe (d + 2)) (qa_cd qc_235) (21, [.ref 192, .int x, .int y], [], (qb_hp (qb_ui s 192 0 0), 149, c)) = R) (h2 : ¬ ((0 ≤ x ∧ x < nI nw) ∧ (0 ≤ y ∧ y < nI nw)) → some (some (.int (-1)), (qb_hp (qb_ui s 192 0 0), 149, c)) = R) : qe (d + 3) 235 [.ref 192, .int x, .int y] (qb_hp (s), 149, c) = R := by
  have h0' : (qb_ui s 192 0 0).1 194 0 = nI nw := (qb_t0 (by omega)).trans h0
  refine (en_235 (d + 2) 192 x y _).trans ?_
  refine go_ald_3_0 rfl ?_
  refine go_c rfl ?_
  refine go_puti rfl ⟨_, rfl, rfl, by decide, by decide⟩ rfl rfl ?_
  refine go_ald_3_0 rfl ?_
  refine go_ild_3_1 rfl ?_
  refine go_call2 rfl (sp_isWire d _ c h0' hw1 hw2 _) (Nat.le_of_ble_eq_true rfl) (qb_qv rfl (by decide) (by decide)) ?_
  refine go_ifeq rfl (fun e1 => ?_) (fun e1 => ?_)
  · have := h2 (fun z => qB_0.mp e1 z.1)
    refine go_c rfl ?_
    exact fin_i rfl rfl this
  · have e1 : 0 ≤ x ∧ x < nI nw := Classical.byContradiction fun z => e1 (qB_f z)
    refine go_ald_3_0 rfl ?_
    refine go_ild_3_2 rfl ?_
    refine go_call2 rfl (sp_isWire d _ c h0' hw1 hw2 _) (Nat.le_of_ble_eq_true rfl) (qb_qv rfl (by decide) (by decide)) ?_
    refine go_ifeq rfl (fun e2 => ?_) (fun e2 => ?_)
    · have := h2 (fun z => qB_0.mp e2 z.2)
      refine go_c rfl ?_
      exact fin_i rfl rfl this
    · exact h1 ⟨e1, Classical.byContradiction fun z => e2 (qB_f z)⟩
theorem qT_shifts (d : Nat) (x y : Int32) : qT (d + 20) 90 235 [.int x, .int y] := fun s c hZ => by
  obtain ⟨hx0, nw, nm, ns, V, F0, lo, hi, se, h1, h2, h3, h4⟩ := id hZ
  obtain ⟨hR, H, X, J, Lf, Sh, hI⟩ := id h2
  have hw := h1.1
  have hS := qS_73
  have h10 : 2 ^ nm ≤ 2 ^ 10 := Nat.pow_le_pow_right (by decide) hw.2.2.1
  by_cases hT : (0 ≤ x ∧ x < nI nw) ∧ (0 ≤ y ∧ y < nI nw)
  · obtain ⟨i, hi0, hxi⟩ := qx_w (by omega) hT.1
    obtain ⟨o, ho, hyo⟩ := qx_w (by omega) hT.2
    have hbz := hR.bz (i := i) (o := o) (by omega)
    by_cases hz : qs_bz (qm_so s) i o = true
    · refine ⟨-1, s, qb_ui s 192 0 0, cB_shifts (d + 18) s c x y h1.2.1.1 _ (fun _ => ?_) (fun z => absurd hT z), cM_shifts (d + 17) s c x y h1.2.2.1.1 (by omega) (by omega) _ (fun _ => ?_) (fun z => absurd hT z), hZ.thr 0⟩
      · subst hxi hyo
        refine go_ald_3_0 rfl ?_
        refine go_getr rfl ⟨_, rfl, rfl, by decide, by decide⟩ ?_
        refine go_ild_3_1 rfl ?_
        refine go_ild_3_2 rfl ?_
        refine go_call3 rfl (sp_isBusyS (d + 16) s c hS i o (by omega)) (Nat.le_of_ble_eq_true rfl) (qS_v hS) ?_
        rw [hbz, qB_t hz]
        refine go_ifeq rfl (fun e => ?_) (fun e => ?_)
        · exact absurd e (by decide)
        · refine go_c rfl ?_
          exact fin_i rfl rfl rfl
      · subst hxi hyo
        refine go_ald_3_0 rfl ?_
        refine go_ild_3_1 rfl ?_
        refine go_ild_3_2 rfl ?_
        refine go_call3 rfl (sp_isBusyM (d + 16) _ c i o (by omega)) (Nat.le_of_ble_eq_true rfl) (qb_qv rfl (by decide) (by decide)) ?_
        rw [qm_s0, qB_t hz]
        refine go_ifne rfl (fun e => ?_) (fun e => ?_)
        · exact absurd e (by decide)
        · refine go_c rfl ?_
          exact fin_i rfl rfl rfl
    · have hz' : ¬ qs_bz (qs_so s 73) i o = true := by rw [hbz]; exact hz
      have hon : ∀ w, w < nw → qs_on (qs_so s 73) w = qs_on (qm_so s) w := fun w hw => hR.on (by omega)
      obtain ⟨t, t1, t2, t3, t4, t5, t6⟩ := sp_seek (d + 16) s c hS (by decide) h1.c ⟨h1.2.1.2.2.2.1, hw.2.2.2.2.1⟩ (hR.in hI) i o hi0 ho (qs_bz_on hz') true
      have hft : qF (fun x => 125 ≤ x ∧ x ≤ 128 ∨ x = 192) s (qb_ui t 192 0 0) := (t6.mo (fun x hx => Or.inl hx)).ui (Or.inr rfl)
      have hso : qm_so (qb_ui t 192 0 0) = qm_so s := funext fun k => hft.i (by omega)
      have hsf := sp_settingFor (d + 14) (qb_ui t 192 0 0) c (h1.m.mv hft (by omega)) (V := V) ⟨(hft.i (by omega)).trans h1.2.2.1.2.2.2.1, hw.2.2.2.2.1⟩ (H := H) (X := X) (J := J) (Lf := Lf) (Sh := Sh) (by rw [hso]; exact hI) i o hi0 ho 1 true (by decide)
      rw [hso] at hsf
      have hct : ∀ Z, qk_ct lo hi nw nm X (qs_so s 73) Z = qk_ct lo hi nw nm X (qm_so s) Z := fun Z => fa_cnt_cong (fun k hk => by rw [hon k hk])
      have fin : ∀ v, qZ (qb_ui (qb_wl (qb_ui t 192 0 0) 204 0 nw (fun w => lN (qm_wy lo hi X w nm))) 192 26 v) := fun v => hZ.mv (P := fun x k => 125 ≤ x ∧ x ≤ 128 ∨ x = 192 ∧ (k = 0 ∨ k = 26) ∨ x = 204) ((((t6.G.mo (fun x k h => by omega)).ui (by omega)).wl (fun k _ _ => by omega)).ui (by omega)) (fun x k hx => by unfold qZ_no qZx_no at hx; omega)
      rcases qk_both h1.c.ok (X := X) (J := J) (f := qs_so s 73) (b := true) (V := V) (Sh := Sh) (i := i) (o := o) (f0 := s.1 125 4) with ⟨g1, g2⟩ | ⟨Z, g0, g1, g2, g3⟩
      · rw [g2] at t1 t2
        rw [qk_m_cong hon] at g1
        rw [g1] at hsf
        refine ⟨-1, t, _, cB_shifts (d + 18) s c x y h1.2.1.1 _ (fun _ => ?_) (fun z => absurd hT z), cM_shifts (d + 17) t c x y ((t6.i (by omega)).trans h1.2.2.1.1) (by omega) (by omega) _ (fun _ => ?_) (fun z => absurd hT z), fin (nI 100000)⟩
        · subst hxi hyo
          refine go_ald_3_0 rfl ?_
          refine go_getr rfl ⟨_, rfl, rfl, by decide, by decide⟩ ?_
          refine go_ild_3_1 rfl ?_
          refine go_ild_3_2 rfl ?_
          refine go_call3 rfl (sp_isBusyS (d + 16) s c hS i o (by omega)) (Nat.le_of_ble_eq_true rfl) (qS_v hS) ?_
          rw [hbz, qB_f hz]
          refine go_ifeq rfl (fun e => ?_) (fun e => ?_)
          · refine go_ald_3_0 rfl ?_
            refine go_getr rfl ⟨_, rfl, rfl, by decide, by decide⟩ ?_
            refine go_ald_3_0 rfl ?_
            refine go_getr rfl ⟨_, rfl, rfl, by decide, by decide⟩ ?_
            refine go_ild_3_1 rfl ?_
            refine go_ild_3_2 rfl ?_
            refine go_c rfl ?_
            refine go_call5 rfl (t1) (Nat.le_of_ble_eq_true rfl) (qb_qv rfl (by decide) (by decide)) ?_
            rw [qB_f (p := (9, s.1 125 4).1 ≤ 8) (show ¬ (9 : Nat) ≤ 8 by decide)]
            refine go_ifeq rfl (fun e2 => ?_) (fun e2 => ?_)
            · refine go_c rfl ?_
              exact fin_i rfl rfl rfl
            · exact absurd rfl e2
          · exact absurd rfl e
        · subst hxi hyo
          refine go_ald_3_0 rfl ?_
          refine go_ild_3_1 rfl ?_
          refine go_ild_3_2 rfl ?_
          refine go_call3 rfl (sp_isBusyM (d + 16) _ c i o (by omega)) (Nat.le_of_ble_eq_true rfl) (qb_qv rfl (by decide) (by decide)) ?_
          rw [hso, qB_f hz]
          refine go_ifne rfl (fun e => ?_) (fun e => ?_)
          · refine go_ald_3_0 rfl ?_
            refine go_ild_3_1 rfl ?_
            refine go_ild_3_2 rfl ?_
            refine go_c rfl ?_
            refine go_call4 rfl (hsf) (Nat.le_of_ble_eq_true rfl) (qb_qv rfl (by decide) (by decide)) ?_
            refine go_c rfl ?_
            refine go_iceq rfl (fun e2 => ?_) (fun e2 => ?_)
            · refine go_c rfl ?_
              exact fin_i rfl rfl rfl
            · exact absurd rfl e2
          · exact absurd rfl e
      · rw [g3] at t1 t2
        rw [qk_m_cong hon, hct] at g2
        rw [g2] at hsf
        have hc8 : qk_ct lo hi nw nm X (qs_so s 73) Z ≤ 8 := Nat.le_trans qk_ct_le (by omega)
        refine ⟨nI (qk_ct lo hi nw nm X (qm_so s) Z), t, _, cB_shifts (d + 18) s c x y h1.2.1.1 _ (fun _ => ?_) (fun z => absurd hT z), cM_shifts (d + 17) t c x y ((t6.i (by omega)).trans h1.2.2.1.1) (by omega) (by omega) _ (fun _ => ?_) (fun z => absurd hT z), fin (nI (qk_ct lo hi nw nm X (qm_so s) Z))⟩
        · subst hxi hyo
          refine go_ald_3_0 rfl ?_
          refine go_getr rfl ⟨_, rfl, rfl, by decide, by decide⟩ ?_
          refine go_ild_3_1 rfl ?_
          refine go_ild_3_2 rfl ?_
          refine go_call3 rfl (sp_isBusyS (d + 16) s c hS i o (by omega)) (Nat.le_of_ble_eq_true rfl) (qS_v hS) ?_
          rw [hbz, qB_f hz]
          refine go_ifeq rfl (fun e => ?_) (fun e => ?_)
          · refine go_ald_3_0 rfl ?_
            refine go_getr rfl ⟨_, rfl, rfl, by decide, by decide⟩ ?_
            refine go_ald_3_0 rfl ?_
            refine go_getr rfl ⟨_, rfl, rfl, by decide, by decide⟩ ?_
            refine go_ild_3_1 rfl ?_
            refine go_ild_3_2 rfl ?_
            refine go_c rfl ?_
            refine go_call5 rfl (t1) (Nat.le_of_ble_eq_true rfl) (qb_qv rfl (by decide) (by decide)) ?_
            rw [qB_t hc8]
            refine go_ifeq rfl (fun e2 => ?_) (fun e2 => ?_)
            · exact absurd e2 (by decide)
            · refine go_ald_3_0 rfl ?_
              refine go_getr rfl ⟨_, rfl, rfl, by decide, by decide⟩ ?_
              refine go_geti rfl ⟨_, rfl, rfl, by decide, by decide⟩ ?_
              refine go_goto rfl ?_
              exact fin_i rfl rfl (qR_i (t2.trans (by rw [hct])))
          · exact absurd rfl e
        · subst hxi hyo
          refine go_ald_3_0 rfl ?_
          refine go_ild_3_1 rfl ?_
          refine go_ild_3_2 rfl ?_
          refine go_call3 rfl (sp_isBusyM (d + 16) _ c i o (by omega)) (Nat.le_of_ble_eq_true rfl) (qb_qv rfl (by decide) (by decide)) ?_
          rw [hso, qB_f hz]
          refine go_ifne rfl (fun e => ?_) (fun e => ?_)
          · refine go_ald_3_0 rfl ?_
            refine go_ild_3_1 rfl ?_
            refine go_ild_3_2 rfl ?_
            refine go_c rfl ?_
            refine go_call4 rfl (hsf) (Nat.le_of_ble_eq_true rfl) (qb_qv rfl (by decide) (by decide)) ?_
            refine go_c rfl ?_
            refine go_iceq rfl (fun e2 => ?_) (fun e2 => ?_)
            · exact absurd (e2.trans (show (-1 : Int32) = nI (2 ^ 32 - 1) from by decide +kernel)) (fun z => by have := (nI_eq32 (by omega) (by decide)).mp z; omega)
            · refine go_ald_3_0 rfl ?_
              refine go_geti rfl ⟨_, rfl, rfl, by decide, by decide⟩ ?_
              refine go_goto rfl ?_
              exact fin_i rfl rfl (qR_i qb_ui_1s)
          · exact absurd rfl e
  · exact ⟨-1, s, qb_ui s 192 0 0, cB_shifts (d + 18) s c x y h1.2.1.1 _ (fun z => absurd z hT) (fun _ => rfl), cM_shifts (d + 17) s c x y h1.2.2.1.1 (by omega) (by omega) _ (fun z => absurd z hT) (fun _ => rfl), hZ.thr 0⟩
