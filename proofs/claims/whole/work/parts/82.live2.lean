/-! a line of a book is lived, in both -/
theorem lv_goBy (e : Nat) (c : Nat × Nat) (m : qb_M) {i : Nat} (hi : i < 40) {v nw : Nat} (hv : v ≤ 4) {x y n h : Int32} (m0 : m.1 209 (5 * i) = nI v) (m1 : m.1 209 (5 * i + 1) = x) (m2 : m.1 209 (5 * i + 2) = y) (m3 : m.1 209 (5 * i + 3) = n) (m4 : m.1 209 (5 * i + 4) = h) (h0 : m.1 194 0 = nI nw) (w1 : 2 ≤ nw) (w2 : nw ≤ 8) (hw : v = 0 → (0 ≤ x ∧ x < nI nw) ∧ 0 ≤ y ∧ y < nI nw) (hw1 : v = 1 → 0 ≤ x ∧ x < nI nw) {r : Int32} {a1 : qb_M} (why : qe (e + 7) 215 [.ref 192, .int (nI v), .int x, .int y, .int h] (qb_hp (m), 149, c) = some (some (.int (r)), (qb_hp (a1), 149, c))) (ha : ∀ k, a1.1 209 k = m.1 209 k) (R : Option (Option Value × qa_H)) (hR0 : r = 0 → ∃ a2, qe (e + 7) 222 [.ref 192, .int (nI v), .int x, .int y, .int n, .int h] (qb_hp (a1), 149, c) = some (none, (qb_hp (a2), 149, c)) ∧ some (some (.int (0)), (qb_hp (a2), 149, c)) = R) (hR1 : r ≠ 0 → some (some (.int (10 * nI v + r)), (qb_hp (a1), 149, c)) = R) : qe (e + 8) 275 [.ref 192, .int (nI (5 * i))] (qb_hp (m), 149, c) = R := by
  have i1 : ∀ k : Nat, nI (5 * i) + nI k = nI (5 * i + k) := fun k => nI_add _ _
  refine (en_275 (e + 7) 192 (nI (5 * i)) _).trans ?_
  refine go_ald_5_0 rfl ?_
  refine go_getr rfl ⟨_, rfl, rfl, by decide, by decide⟩ ?_
  refine go_ild_5_1 rfl ?_
  refine go_iald (j := 5 * i) rfl (⟨rfl, by decide, by decide, by decide⟩) (rfl) (by omega) ?_
  rw [m0]
  refine go_ist_5_2 rfl rfl ?_
  refine go_ald_5_0 rfl ?_
  refine go_getr rfl ⟨_, rfl, rfl, by decide, by decide⟩ ?_
  refine go_ild_5_1 rfl ?_
  refine go_c rfl ?_
  refine go_iadd rfl ?_
  rw [nI_1]
  refine go_iald (j := 5 * i + 1) rfl (⟨rfl, by decide, by decide, by decide⟩) (rfl) (by omega) ?_
  rw [m1]
  refine go_ist_5_3 rfl rfl ?_
  refine go_ild_5_2 rfl ?_
  refine go_c rfl ?_
  have go93 : ∀ l4 : Value, qa_lm (qe (e + 7)) (qa_cd qc_275) (93, [.ref 192, .int (nI (5 * i)), .int (nI v), .int x, l4], [], (qb_hp (m), 149, c)) = R := fun l4 => by
    refine go_ald_5_0 rfl ?_
    refine go_ild_5_2 rfl ?_
    refine go_ild_5_3 rfl ?_
    refine go_ald_5_0 rfl ?_
    refine go_getr rfl ⟨_, rfl, rfl, by decide, by decide⟩ ?_
    refine go_ild_5_1 rfl ?_
    refine go_c rfl ?_
    refine go_iadd rfl ?_
    rw [show (2 : Int32) = nI 2 from rfl, i1]
    refine go_iald (j := 5 * i + 2) rfl (⟨rfl, by decide, by decide, by decide⟩) (rfl) (by omega) ?_
    rw [m2]
    refine go_ald_5_0 rfl ?_
    refine go_getr rfl ⟨_, rfl, rfl, by decide, by decide⟩ ?_
    refine go_ild_5_1 rfl ?_
    refine go_c rfl ?_
    refine go_iadd rfl ?_
    rw [show (4 : Int32) = nI 4 from rfl, i1]
    refine go_iald (j := 5 * i + 4) rfl (⟨rfl, by decide, by decide, by decide⟩) (rfl) (by omega) ?_
    rw [m4]
    refine go_call5 rfl (why) (Nat.le_of_ble_eq_true rfl) (qb_qv rfl (by decide) (by decide)) ?_
    refine go_ist_5_4 rfl rfl ?_
    refine go_ild_5_4 rfl ?_
    refine go_ifeq rfl (fun e1 => ?_) (fun e1 => ?_)
    · obtain ⟨a2, b1, b2⟩ := hR0 e1
      refine go_ald_5_0 rfl ?_
      refine go_ild_5_2 rfl ?_
      refine go_ild_5_3 rfl ?_
      refine go_ald_5_0 rfl ?_
      refine go_getr rfl ⟨_, rfl, rfl, by decide, by decide⟩ ?_
      refine go_ild_5_1 rfl ?_
      refine go_c rfl ?_
      refine go_iadd rfl ?_
      rw [show (2 : Int32) = nI 2 from rfl, i1]
      refine go_iald (j := 5 * i + 2) rfl (⟨rfl, by decide, by decide, by decide⟩) (rfl) (by omega) ?_
      rw [ha, m2]
      refine go_ald_5_0 rfl ?_
      refine go_getr rfl ⟨_, rfl, rfl, by decide, by decide⟩ ?_
      refine go_ild_5_1 rfl ?_
      refine go_c rfl ?_
      refine go_iadd rfl ?_
      rw [show (3 : Int32) = nI 3 from rfl, i1]
      refine go_iald (j := 5 * i + 3) rfl (⟨rfl, by decide, by decide, by decide⟩) (rfl) (by omega) ?_
      rw [ha, m3]
      refine go_ald_5_0 rfl ?_
      refine go_getr rfl ⟨_, rfl, rfl, by decide, by decide⟩ ?_
      refine go_ild_5_1 rfl ?_
      refine go_c rfl ?_
      refine go_iadd rfl ?_
      rw [show (4 : Int32) = nI 4 from rfl, i1]
      refine go_iald (j := 5 * i + 4) rfl (⟨rfl, by decide, by decide, by decide⟩) (rfl) (by omega) ?_
      rw [ha, m4]
      refine go_call6 rfl (b1) (Nat.le_of_ble_eq_true rfl) (qb_qv rfl (by decide) (by decide)) ?_
      refine go_c rfl ?_
      exact fin_i rfl rfl b2
    · refine go_c rfl ?_
      refine go_ild_5_2 rfl ?_
      refine go_imul rfl ?_
      refine go_ild_5_4 rfl ?_
      refine go_iadd rfl ?_
      exact fin_i rfl rfl (hR1 e1)
  have go77 : qa_lm (qe (e + 7)) (qa_cd qc_275) (77, [.ref 192, .int (nI (5 * i)), .int (nI v), .int x, .retAddr 0], [], (qb_hp (m), 149, c)) = R := by
    refine go_ild_5_2 rfl ?_
    refine go_c rfl ?_
    refine go_icne rfl (fun e1 => ?_) (fun e1 => ?_)
    · have hv1 : v = 1 := (nI_eq (b := 1) (by omega) (by decide)).mp e1
      refine go_ald_5_0 rfl ?_
      refine go_ild_5_3 rfl ?_
      refine go_call2 rfl (sp_isWire (e + 5) m c h0 w1 w2 x) (Nat.le_of_ble_eq_true rfl) (qb_qv rfl (by decide) (by decide)) ?_
      rw [qB_t (hw1 hv1)]
      refine go_ifne rfl (fun e2 => ?_) (fun e2 => ?_)
      · exact absurd e2 (by decide)
      · exact go93 _
    · exact go93 _
  refine go_icne rfl (fun e0 => ?_) (fun e0 => ?_)
  · exact absurd ((nI_eq (b := 5) (by omega) (by decide)).mp e0) (by omega)
  · refine go_ild_5_2 rfl ?_
    refine go_ifne rfl (fun e1 => ?_) (fun e1 => ?_)
    · have hv0 : v = 0 := (nI_eq (b := 0) (by omega) (by decide)).mp e1
      refine go_ald_5_0 rfl ?_
      refine go_ild_5_3 rfl ?_
      refine go_call2 rfl (sp_isWire (e + 5) m c h0 w1 w2 x) (Nat.le_of_ble_eq_true rfl) (qb_qv rfl (by decide) (by decide)) ?_
      rw [qB_t (hw hv0).1]
      refine go_ifeq rfl (fun e2 => ?_) (fun e2 => ?_)
      · exact absurd e2 (by decide)
      · refine go_ald_5_0 rfl ?_
        refine go_ald_5_0 rfl ?_
        refine go_getr rfl ⟨_, rfl, rfl, by decide, by decide⟩ ?_
        refine go_ild_5_1 rfl ?_
        refine go_c rfl ?_
        refine go_iadd rfl ?_
        rw [show (2 : Int32) = nI 2 from rfl, i1]
        refine go_iald (j := 5 * i + 2) rfl (⟨rfl, by decide, by decide, by decide⟩) (rfl) (by omega) ?_
        rw [m2]
        refine go_call2 rfl (sp_isWire (e + 5) m c h0 w1 w2 y) (Nat.le_of_ble_eq_true rfl) (qb_qv rfl (by decide) (by decide)) ?_
        rw [qB_t (hw hv0).2]
        refine go_ifne rfl (fun e3 => ?_) (fun e3 => ?_)
        · exact absurd e3 (by decide)
        · exact go77
    · exact go77
/-- a call to, or from, a wire that isn't there -/
theorem lv_no0 (e : Nat) (c : Nat × Nat) (m : qb_M) {i : Nat} (hi : i < 40) {nw : Nat} {x y : Int32} (m0 : m.1 209 (5 * i) = 0) (m1 : m.1 209 (5 * i + 1) = x) (m2 : m.1 209 (5 * i + 2) = y) (h0 : m.1 194 0 = nI nw) (w1 : 2 ≤ nw) (w2 : nw ≤ 8) (hw : ¬ ((0 ≤ x ∧ x < nI nw) ∧ 0 ≤ y ∧ y < nI nw)) : qe (e + 8) 275 [.ref 192, .int (nI (5 * i))] (qb_hp (m), 149, c) = some (some (.int (9)), (qb_hp (m), 149, c)) := by
  have i1 : ∀ k : Nat, nI (5 * i) + nI k = nI (5 * i + k) := fun k => nI_add _ _
  refine (en_275 (e + 7) 192 (nI (5 * i)) _).trans ?_
  refine go_ald_5_0 rfl ?_
  refine go_getr rfl ⟨_, rfl, rfl, by decide, by decide⟩ ?_
  refine go_ild_5_1 rfl ?_
  refine go_iald (j := 5 * i) rfl (⟨rfl, by decide, by decide, by decide⟩) (rfl) (by omega) ?_
  rw [m0]
  refine go_ist_5_2 rfl rfl ?_
  refine go_ald_5_0 rfl ?_
  refine go_getr rfl ⟨_, rfl, rfl, by decide, by decide⟩ ?_
  refine go_ild_5_1 rfl ?_
  refine go_c rfl ?_
  refine go_iadd rfl ?_
  rw [nI_1]
  refine go_iald (j := 5 * i + 1) rfl (⟨rfl, by decide, by decide, by decide⟩) (rfl) (by omega) ?_
  rw [m1]
  refine go_ist_5_3 rfl rfl ?_
  refine go_ild_5_2 rfl ?_
  refine go_c rfl ?_
  refine go_icne rfl (fun e0 => ?_) (fun e0 => ?_)
  · exact absurd e0 (by decide)
  · refine go_ild_5_2 rfl ?_
    refine go_ifne rfl (fun e1 => ?_) (fun e1 => ?_)
    · refine go_ald_5_0 rfl ?_
      refine go_ild_5_3 rfl ?_
      refine go_call2 rfl (sp_isWire (e + 5) m c h0 w1 w2 x) (Nat.le_of_ble_eq_true rfl) (qb_qv rfl (by decide) (by decide)) ?_
      refine go_ifeq rfl (fun e2 => ?_) (fun e2 => ?_)
      · refine go_c rfl ?_
        exact fin_i rfl rfl rfl
      · have hx : 0 ≤ x ∧ x < nI nw := Classical.byContradiction fun z => e2 (qB_f z)
        refine go_ald_5_0 rfl ?_
        refine go_ald_5_0 rfl ?_
        refine go_getr rfl ⟨_, rfl, rfl, by decide, by decide⟩ ?_
        refine go_ild_5_1 rfl ?_
        refine go_c rfl ?_
        refine go_iadd rfl ?_
        rw [show (2 : Int32) = nI 2 from rfl, i1]
        refine go_iald (j := 5 * i + 2) rfl (⟨rfl, by decide, by decide, by decide⟩) (rfl) (by omega) ?_
        rw [m2]
        refine go_call2 rfl (sp_isWire (e + 5) m c h0 w1 w2 y) (Nat.le_of_ble_eq_true rfl) (qb_qv rfl (by decide) (by decide)) ?_
        rw [qB_f (fun z => hw ⟨hx, z⟩)]
        refine go_ifne rfl (fun e3 => ?_) (fun e3 => ?_)
        · refine go_c rfl ?_
          exact fin_i rfl rfl rfl
        · exact absurd rfl e3
    · exact absurd rfl e1
theorem lv_no1 (e : Nat) (c : Nat × Nat) (m : qb_M) {i : Nat} (hi : i < 40) {nw : Nat} {x : Int32} (m0 : m.1 209 (5 * i) = 1) (m1 : m.1 209 (5 * i + 1) = x) (h0 : m.1 194 0 = nI nw) (w1 : 2 ≤ nw) (w2 : nw ≤ 8) (hw : ¬ (0 ≤ x ∧ x < nI nw)) : qe (e + 8) 275 [.ref 192, .int (nI (5 * i))] (qb_hp (m), 149, c) = some (some (.int (19)), (qb_hp (m), 149, c)) := by
  have i1 : ∀ k : Nat, nI (5 * i) + nI k = nI (5 * i + k) := fun k => nI_add _ _
  refine (en_275 (e + 7) 192 (nI (5 * i)) _).trans ?_
  refine go_ald_5_0 rfl ?_
  refine go_getr rfl ⟨_, rfl, rfl, by decide, by decide⟩ ?_
  refine go_ild_5_1 rfl ?_
  refine go_iald (j := 5 * i) rfl (⟨rfl, by decide, by decide, by decide⟩) (rfl) (by omega) ?_
  rw [m0]
  refine go_ist_5_2 rfl rfl ?_
  refine go_ald_5_0 rfl ?_
  refine go_getr rfl ⟨_, rfl, rfl, by decide, by decide⟩ ?_
  refine go_ild_5_1 rfl ?_
  refine go_c rfl ?_
  refine go_iadd rfl ?_
  rw [nI_1]
  refine go_iald (j := 5 * i + 1) rfl (⟨rfl, by decide, by decide, by decide⟩) (rfl) (by omega) ?_
  rw [m1]
  refine go_ist_5_3 rfl rfl ?_
  refine go_ild_5_2 rfl ?_
  refine go_c rfl ?_
  refine go_icne rfl (fun e0 => ?_) (fun e0 => ?_)
  · exact absurd e0 (by decide)
  · refine go_ild_5_2 rfl ?_
    refine go_ifne rfl (fun e1 => ?_) (fun e1 => ?_)
    · exact absurd e1 (by decide)
    · refine go_ild_5_2 rfl ?_
      refine go_c rfl ?_
      refine go_icne rfl (fun e2 => ?_) (fun e2 => ?_)
      · refine go_ald_5_0 rfl ?_
        refine go_ild_5_3 rfl ?_
        refine go_call2 rfl (sp_isWire (e + 5) m c h0 w1 w2 x) (Nat.le_of_ble_eq_true rfl) (qb_qv rfl (by decide) (by decide)) ?_
        rw [qB_f hw]
        refine go_ifne rfl (fun e3 => ?_) (fun e3 => ?_)
        · refine go_c rfl ?_
          exact fin_i rfl rfl rfl
        · exact absurd rfl e3
      · exact absurd rfl e2
theorem lv_hour (e : Nat) (c : Nat × Nat) (m : qb_M) {i : Nat} (hi : i < 40) {nw nm : Nat} {lo hi' : Nat → Nat} (hp : qm_pl m nw nm lo hi') {x H : Nat} (hx : x ≤ 60) (m0 : m.1 209 (5 * i) = 5) (m1 : m.1 209 (5 * i + 1) = nI x) (hH : m.1 194 30 = nI H) (hH4 : H ≤ 400) : (¬ H + x ≤ 400 → qe (e + 8) 275 [.ref 192, .int (nI (5 * i))] (qb_hp (m), 149, c) = some (some (.int (51)), (qb_hp (m), 149, c))) ∧ (H + x ≤ 400 → ∃ t, qe (e + 8) 275 [.ref 192, .int (nI (5 * i))] (qb_hp (m), 149, c) = some (some (.int (0)), (qb_hp (t), 149, c)) ∧ qm_so t = qt_ms (qm_so m) nw x ∧ qM_fr m t) := by
  have pre : ∀ R, qa_lm (qe (e + 7)) (qa_cd qc_275) (21, [.ref 192, .int (nI (5 * i)), .int 5, .int (nI x), .retAddr 0], [], (qb_hp (m), 149, c)) = R → qe (e + 8) 275 [.ref 192, .int (nI (5 * i))] (qb_hp (m), 149, c) = R := fun R hR => by
    refine (en_275 (e + 7) 192 (nI (5 * i)) _).trans ?_
    refine go_ald_5_0 rfl ?_
    refine go_getr rfl ⟨_, rfl, rfl, by decide, by decide⟩ ?_
    refine go_ild_5_1 rfl ?_
    refine go_iald (j := 5 * i) rfl (⟨rfl, by decide, by decide, by decide⟩) (rfl) (by omega) ?_
    rw [m0]
    refine go_ist_5_2 rfl rfl ?_
    refine go_ald_5_0 rfl ?_
    refine go_getr rfl ⟨_, rfl, rfl, by decide, by decide⟩ ?_
    refine go_ild_5_1 rfl ?_
    refine go_c rfl ?_
    refine go_iadd rfl ?_
    rw [nI_1]
    refine go_iald (j := 5 * i + 1) rfl (⟨rfl, by decide, by decide, by decide⟩) (rfl) (by omega) ?_
    rw [m1]
    refine go_ist_5_3 rfl rfl ?_
    refine go_ild_5_2 rfl ?_
    refine go_c rfl ?_
    refine go_icne rfl (fun e0 => ?_) (fun e0 => ?_)
    · exact hR
    · exact absurd rfl e0
  refine ⟨fun h => pre _ ?_, fun h => ?_⟩
  · refine go_ald_5_0 rfl ?_
    refine go_getr rfl ⟨_, rfl, rfl, by decide, by decide⟩ ?_
    refine go_c rfl ?_
    refine go_iald (j := 30) rfl (⟨rfl, by decide, by decide, by decide⟩) (rfl) (by omega) ?_
    rw [hH]
    refine go_ild_5_3 rfl ?_
    refine go_iadd rfl ?_
    rw [nI_add]
    refine go_c rfl ?_
    refine go_icle rfl (fun e1 => ?_) (fun e1 => ?_)
    · exact absurd ((nI_leI (b := 400) (by omega) (by decide)).mp e1) h
    · refine go_c rfl ?_
      exact fin_i rfl rfl rfl
  · obtain ⟨t, t1, t2, t3⟩ := sp_passHours (e + 4) m c hp (H := H) (m := x) hH hH4 hx
    rw [show min x (400 - H) = x by omega] at t1 t2
    refine ⟨t, pre _ ?_, t2, t3⟩
    refine go_ald_5_0 rfl ?_
    refine go_getr rfl ⟨_, rfl, rfl, by decide, by decide⟩ ?_
    refine go_c rfl ?_
    refine go_iald (j := 30) rfl (⟨rfl, by decide, by decide, by decide⟩) (rfl) (by omega) ?_
    rw [hH]
    refine go_ild_5_3 rfl ?_
    refine go_iadd rfl ?_
    rw [nI_add]
    refine go_c rfl ?_
    refine go_icle rfl (fun e1 => ?_) (fun e1 => ?_)
    · refine go_ald_5_0 rfl ?_
      refine go_ild_5_3 rfl ?_
      refine go_call2 rfl (t1) (Nat.le_of_ble_eq_true rfl) (qb_qv rfl (by decide) (by decide)) ?_
      refine go_pop_int rfl ?_
      refine go_c rfl ?_
      exact fin_i rfl rfl rfl
    · exact absurd ((nI_leI (b := 400) (by omega) (by decide)).mpr h) e1
/-- the component's desk, for wires that aren't there -/
theorem lv_no60 (d : Nat) (c : Nat × Nat) (s : qb_M) {nw : Nat} (hn : s.1 67 5 = nI nw) {x y : Int32} (n h : Int32) (hw : ¬ ((0 ≤ x ∧ x < nI nw) ∧ 0 ≤ y ∧ y < nI nw)) : qe (d + 1) 60 [.ref 125, .ref 145, .int x, .int y, .int n, .int h] (qb_hp (s), 149, c) = some (some (.int (9)), (qb_hp (s), 149, c)) := by
  have out : ∀ l6 l7 : Value, qa_lm (qe (d)) (qa_cd qc_60) (30, [.ref 125, .ref 145, .int x, .int y, .int n, .int h, l6, l7], [], (qb_hp (s), 149, c)) = some (some (.int (9)), (qb_hp (s), 149, c)) := fun l6 l7 => by
    refine go_c rfl ?_
    exact fin_i rfl rfl rfl
  refine (en_60 d 125 145 x y n h _).trans ?_
  refine go_ild_8_2 rfl ?_
  refine go_iflt rfl (fun e1 => ?_) (fun e1 => ?_)
  · exact out _ _
  · refine go_ild_8_2 rfl ?_
    refine go_ald_8_0 rfl ?_
    refine go_getr rfl ⟨_, rfl, rfl, by decide, by decide⟩ ?_
    refine go_geti rfl ⟨_, rfl, rfl, by decide, by decide⟩ ?_
    rw [hn]
    refine go_icge rfl (fun e2 => ?_) (fun e2 => ?_)
    · exact out _ _
    · refine go_ild_8_3 rfl ?_
      refine go_iflt rfl (fun e3 => ?_) (fun e3 => ?_)
      · exact out _ _
      · refine go_ild_8_3 rfl ?_
        refine go_ald_8_0 rfl ?_
        refine go_getr rfl ⟨_, rfl, rfl, by decide, by decide⟩ ?_
        refine go_geti rfl ⟨_, rfl, rfl, by decide, by decide⟩ ?_
        rw [hn]
        refine go_iclt rfl (fun e4 => ?_) (fun e4 => ?_)
        · exact absurd ⟨⟨Int32.not_lt.mp e1, Int32.not_le.mp e2⟩, Int32.not_lt.mp e3, e4⟩ hw
        · exact out _ _
theorem lv_no72 (d : Nat) (c : Nat × Nat) (s : qb_M) {nw : Nat} (hn : s.1 67 5 = nI nw) {x : Int32} (hw : ¬ (0 ≤ x ∧ x < nI nw)) : qe (d + 1) 72 [.ref 125, .ref 145, .int x] (qb_hp (s), 149, c) = some (some (.int (9)), (qb_hp (s), 149, c)) := by
  have out : qa_lm (qe (d)) (qa_cd qc_72) (15, [.ref 125, .ref 145, .int x], [], (qb_hp (s), 149, c)) = some (some (.int (9)), (qb_hp (s), 149, c)) := by
    refine go_c rfl ?_
    exact fin_i rfl rfl rfl
  refine (en_72 d 125 145 x _).trans ?_
  refine go_ild_3_2 rfl ?_
  refine go_iflt rfl (fun e1 => ?_) (fun e1 => ?_)
  · exact out
  · refine go_ild_3_2 rfl ?_
    refine go_ald_3_0 rfl ?_
    refine go_getr rfl ⟨_, rfl, rfl, by decide, by decide⟩ ?_
    refine go_geti rfl ⟨_, rfl, rfl, by decide, by decide⟩ ?_
    rw [hn]
    refine go_iclt rfl (fun e2 => ?_) (fun e2 => ?_)
    · exact absurd ⟨Int32.not_lt.mp e1, e2⟩ hw
    · exact out
