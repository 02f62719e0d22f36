/-! questions that change nothing -/
theorem qT_ro {d k k' : Nat} {As : List Value} (h : ∀ (s : qb_M) (c : Nat × Nat), qZ s → ∃ v, qe d k (.ref 64 :: As) (qb_hp (s), 149, c) = some (some (.int (v)), (qb_hp (s), 149, c)) ∧ ∀ t, t = qb_ui s 192 0 0 → qe d k' (.ref 192 :: As) (qb_hp (s), 149, c) = some (some (.int (v)), (qb_hp (t), 149, c))) : qT d k k' As := fun s c hZ => by
  obtain ⟨v, h1, h2⟩ := h s c hZ
  exact ⟨v, s, qb_ui s 192 0 0, h1, h2 _ rfl, hZ.thr 0⟩
theorem qx_inA {v : Int32} {n : Nat} (hn : n < 2 ^ 30) : (0 ≤ v ∧ v ≤ nI n - 1) ↔ (0 ≤ v ∧ v < nI n) := by
  rcases Nat.eq_zero_or_pos n with z | z
  · subst z; exact qx_in0
  · exact qx_in hn z
theorem qb_t0 {s : qb_M} {x k : Nat} (h : x ≠ 192 ∨ k ≠ 0) : (qb_ui s 192 0 0).1 x k = s.1 x k := qb_ui_1n h
theorem qT_fault (d : Nat) : qT (d + 20) 44 192 [] := qT_ro fun s c hZ => by
  obtain ⟨-, -, -, h⟩ := hZ.1.2.2.2.2.2
  refine ⟨s.1 65 2, ?_, ?_⟩
  · refine (en_44 (d + 19) 64 _).trans ?_
    refine go_ald_1_0 rfl ?_
    refine go_getr rfl ⟨_, rfl, rfl, by decide, by decide⟩ ?_
    refine go_geti rfl ⟨_, rfl, rfl, by decide, by decide⟩ ?_
    exact fin_i rfl rfl rfl
  · rintro t rfl
    refine (en_192 (d + 19) 192 _).trans ?_
    refine go_ald_1_0 rfl ?_
    refine go_c rfl ?_
    refine go_puti rfl ⟨_, rfl, rfl, by decide, by decide⟩ rfl rfl ?_
    refine go_ald_1_0 rfl ?_
    refine go_geti rfl ⟨_, rfl, rfl, by decide, by decide⟩ ?_
    exact fin_i rfl rfl (qR_i ((qb_t0 (by omega)).trans h.symm))
theorem qT_setting (d : Nat) : qT (d + 20) 93 238 [] := qT_ro fun s c hZ => by
  obtain ⟨h, -, -, -⟩ := hZ.1.2.2.2.2.2
  refine ⟨s.1 64 15, ?_, ?_⟩
  · refine (en_93 (d + 19) 64 _).trans ?_
    refine go_ald_1_0 rfl ?_
    refine go_geti rfl ⟨_, rfl, rfl, by decide, by decide⟩ ?_
    exact fin_i rfl rfl rfl
  · rintro t rfl
    refine (en_238 (d + 19) 192 _).trans ?_
    refine go_ald_1_0 rfl ?_
    refine go_c rfl ?_
    refine go_puti rfl ⟨_, rfl, rfl, by decide, by decide⟩ rfl rfl ?_
    refine go_ald_1_0 rfl ?_
    refine go_geti rfl ⟨_, rfl, rfl, by decide, by decide⟩ ?_
    exact fin_i rfl rfl (qR_i ((qb_t0 (by omega)).trans h.symm))
theorem qT_deafAt (d : Nat) : qT (d + 20) 101 246 [] := qT_ro fun s c hZ => by
  obtain ⟨-, h, -, -⟩ := hZ.1.2.2.2.2.2
  refine ⟨s.1 64 16, ?_, ?_⟩
  · refine (en_101 (d + 19) 64 _).trans ?_
    refine go_ald_1_0 rfl ?_
    refine go_geti rfl ⟨_, rfl, rfl, by decide, by decide⟩ ?_
    exact fin_i rfl rfl rfl
  · rintro t rfl
    refine (en_246 (d + 19) 192 _).trans ?_
    refine go_ald_1_0 rfl ?_
    refine go_c rfl ?_
    refine go_puti rfl ⟨_, rfl, rfl, by decide, by decide⟩ rfl rfl ?_
    refine go_ald_1_0 rfl ?_
    refine go_geti rfl ⟨_, rfl, rfl, by decide, by decide⟩ ?_
    exact fin_i rfl rfl (qR_i ((qb_t0 (by omega)).trans h.symm))
theorem qT_trial (d : Nat) : qT (d + 20) 112 252 [] := qT_ro fun s c hZ => by
  obtain ⟨-, -, h, -⟩ := hZ.1.2.2.2.2.2
  refine ⟨s.1 64 17, ?_, ?_⟩
  · refine (en_112 (d + 19) 64 _).trans ?_
    refine go_ald_1_0 rfl ?_
    refine go_geti rfl ⟨_, rfl, rfl, by decide, by decide⟩ ?_
    exact fin_i rfl rfl rfl
  · rintro t rfl
    refine (en_252 (d + 19) 192 _).trans ?_
    refine go_ald_1_0 rfl ?_
    refine go_c rfl ?_
    refine go_puti rfl ⟨_, rfl, rfl, by decide, by decide⟩ rfl rfl ?_
    refine go_ald_1_0 rfl ?_
    refine go_geti rfl ⟨_, rfl, rfl, by decide, by decide⟩ ?_
    exact fin_i rfl rfl (qR_i ((qb_t0 (by omega)).trans h.symm))
theorem qT_byteAt (d : Nat) (x : Int32) : qT (d + 20) 125 261 [.int x] := qT_ro fun s c hZ => by
  obtain ⟨m, hm, h1, h2, h3⟩ := hZ.1.2.2.2.1
  by_cases hx : 0 ≤ x ∧ x < nI m
  · obtain ⟨j, hj, rfl⟩ := qx_w (by omega) hx
    refine ⟨s.1 190 j, ?_, ?_⟩
    · refine (en_125 (d + 19) 64 (nI j) _).trans ?_
      refine go_ild_2_1 rfl ?_
      refine go_iflt rfl (fun e => ?_) (fun e => ?_)
      · exact absurd e (nI_pos (by omega))
      · refine go_ild_2_1 rfl ?_
        refine go_ald_2_0 rfl ?_
        refine go_geti rfl ⟨_, rfl, rfl, by decide, by decide⟩ ?_
        rw [h1]
        refine go_icge rfl (fun e2 => ?_) (fun e2 => ?_)
        · exact absurd e2 (nI_ge hj (by omega))
        · refine go_ald_2_0 rfl ?_
          refine go_getr rfl ⟨_, rfl, rfl, by decide, by decide⟩ ?_
          refine go_ild_2_1 rfl ?_
          refine go_iald (j := j) rfl (⟨rfl, by decide, by decide, by decide⟩) (rfl) (by omega) ?_
          refine go_goto rfl ?_
          exact fin_i rfl rfl rfl
    · rintro t rfl
      refine (en_261 (d + 19) 192 (nI j) _).trans ?_
      refine go_ald_2_0 rfl ?_
      refine go_c rfl ?_
      refine go_puti rfl ⟨_, rfl, rfl, by decide, by decide⟩ rfl rfl ?_
      refine go_ild_2_1 rfl ?_
      refine go_c rfl ?_
      refine go_ald_2_0 rfl ?_
      refine go_geti rfl ⟨_, rfl, rfl, by decide, by decide⟩ ?_
      rw [show (qb_ui s 192 0 0).1 192 34 = nI m from (qb_t0 (by omega)).trans h2]
      refine go_c rfl ?_
      refine go_isub rfl ?_
      refine go_call3 rfl (sp_isIn (d + 18) _ _ _ _) (Nat.le_of_ble_eq_true rfl) rfl ?_
      rw [qB_t ((qx_inA (by omega)).mpr hx)]
      refine go_ifeq rfl (fun e => ?_) (fun e => ?_)
      · exact absurd e (by decide)
      · refine go_ald_2_0 rfl ?_
        refine go_getr rfl ⟨_, rfl, rfl, by decide, by decide⟩ ?_
        refine go_ild_2_1 rfl ?_
        refine go_iald (j := j) rfl (⟨rfl, by decide, by decide, by decide⟩) (rfl) (by omega) ?_
        refine go_goto rfl ?_
        exact fin_i rfl rfl (qR_i ((qb_t0 (by omega)).trans (h3 j hj).symm))
  · refine ⟨-1, ?_, ?_⟩
    · refine (en_125 (d + 19) 64 x _).trans ?_
      refine go_ild_2_1 rfl ?_
      refine go_iflt rfl (fun e => ?_) (fun e => ?_)
      · refine go_c rfl ?_
        exact fin_i rfl rfl rfl
      · refine go_ild_2_1 rfl ?_
        refine go_ald_2_0 rfl ?_
        refine go_geti rfl ⟨_, rfl, rfl, by decide, by decide⟩ ?_
        rw [h1]
        refine go_icge rfl (fun e2 => ?_) (fun e2 => ?_)
        · refine go_c rfl ?_
          exact fin_i rfl rfl rfl
        · exact absurd ⟨Int32.not_lt.mp e, Int32.not_le.mp e2⟩ hx
    · rintro t rfl
      refine (en_261 (d + 19) 192 x _).trans ?_
      refine go_ald_2_0 rfl ?_
      refine go_c rfl ?_
      refine go_puti rfl ⟨_, rfl, rfl, by decide, by decide⟩ rfl rfl ?_
      refine go_ild_2_1 rfl ?_
      refine go_c rfl ?_
      refine go_ald_2_0 rfl ?_
      refine go_geti rfl ⟨_, rfl, rfl, by decide, by decide⟩ ?_
      rw [show (qb_ui s 192 0 0).1 192 34 = nI m from (qb_t0 (by omega)).trans h2]
      refine go_c rfl ?_
      refine go_isub rfl ?_
      refine go_call3 rfl (sp_isIn (d + 18) _ _ _ _) (Nat.le_of_ble_eq_true rfl) rfl ?_
      rw [qB_f (fun z => hx ((qx_inA (by omega)).mp z))]
      refine go_ifeq rfl (fun e => ?_) (fun e => ?_)
      · refine go_c rfl ?_
        exact fin_i rfl rfl rfl
      · exact absurd rfl e
theorem qT_told (d : Nat) (x : Int32) : qT (d + 20) 138 277 [.int x] := qT_ro fun s c hZ => by
  have hb := hZ.1.2.2.2.2.1
  by_cases hx : 0 ≤ x ∧ x < nI 4
  · obtain ⟨j, hj, rfl⟩ := qx_w (by omega) hx
    refine ⟨s.1 191 j, ?_, ?_⟩
    · refine (en_138 (d + 19) 64 (nI j) _).trans ?_
      refine go_ild_2_1 rfl ?_
      refine go_iflt rfl (fun e => ?_) (fun e => ?_)
      · exact absurd e (nI_pos (by omega))
      · refine go_ild_2_1 rfl ?_
        refine go_ald_2_0 rfl ?_
        refine go_getr rfl ⟨_, rfl, rfl, by decide, by decide⟩ ?_
        refine go_len rfl (⟨rfl, by decide, by decide, by decide⟩) ?_
        refine go_icge rfl (fun e2 => ?_) (fun e2 => ?_)
        · exact absurd e2 (nI_ge hj (by omega))
        · refine go_ald_2_0 rfl ?_
          refine go_getr rfl ⟨_, rfl, rfl, by decide, by decide⟩ ?_
          refine go_ild_2_1 rfl ?_
          refine go_iald (j := j) rfl (⟨rfl, by decide, by decide, by decide⟩) (rfl) (by omega) ?_
          refine go_goto rfl ?_
          exact fin_i rfl rfl rfl
    · rintro t rfl
      refine (en_277 (d + 19) 192 (nI j) _).trans ?_
      refine go_ald_2_0 rfl ?_
      refine go_c rfl ?_
      refine go_puti rfl ⟨_, rfl, rfl, by decide, by decide⟩ rfl rfl ?_
      refine go_ald_2_0 rfl ?_
      refine go_geti rfl ⟨_, rfl, rfl, by decide, by decide⟩ ?_
      rw [qb_t0 (by omega)]
      rcases hb with ⟨b1, b2⟩ | ⟨b1, b2⟩
      · rw [b1]
        refine go_ifeq rfl (fun e => ?_) (fun e => ?_)
        · refine go_c rfl ?_
          exact fin_i rfl rfl (qR_i (b2 j hj).symm)
        · exact absurd rfl e
      · rw [b1]
        refine go_ifeq rfl (fun e => ?_) (fun e => ?_)
        · exact absurd e (by decide)
        · refine go_ild_2_1 rfl ?_
          refine go_c rfl ?_
          refine go_c rfl ?_
          refine go_call3 rfl (sp_isIn (d + 18) _ _ _ _) (Nat.le_of_ble_eq_true rfl) rfl ?_
          rw [qB_t (show (0 : Int32) ≤ nI j ∧ nI j ≤ 3 from ⟨hx.1, nI_le (a := j) (b := 3) (by omega) (by decide)⟩)]
          refine go_ifeq rfl (fun e2 => ?_) (fun e2 => ?_)
          · exact absurd e2 (by decide)
          · refine go_ald_2_0 rfl ?_
            refine go_getr rfl ⟨_, rfl, rfl, by decide, by decide⟩ ?_
            refine go_ild_2_1 rfl ?_
            refine go_iald (j := j) rfl (⟨rfl, by decide, by decide, by decide⟩) (rfl) (by omega) ?_
            refine go_goto rfl ?_
            exact fin_i rfl rfl (qR_i ((qb_t0 (by omega)).trans (b2 j hj).symm))
  · refine ⟨-1, ?_, ?_⟩
    · refine (en_138 (d + 19) 64 x _).trans ?_
      refine go_ild_2_1 rfl ?_
      refine go_iflt rfl (fun e => ?_) (fun e => ?_)
      · refine go_c rfl ?_
        exact fin_i rfl rfl rfl
      · refine go_ild_2_1 rfl ?_
        refine go_ald_2_0 rfl ?_
        refine go_getr rfl ⟨_, rfl, rfl, by decide, by decide⟩ ?_
        refine go_len rfl (⟨rfl, by decide, by decide, by decide⟩) ?_
        refine go_icge rfl (fun e2 => ?_) (fun e2 => ?_)
        · refine go_c rfl ?_
          exact fin_i rfl rfl rfl
        · exact absurd ⟨Int32.not_lt.mp e, Int32.not_le.mp e2⟩ hx
    · rintro t rfl
      refine (en_277 (d + 19) 192 x _).trans ?_
      refine go_ald_2_0 rfl ?_
      refine go_c rfl ?_
      refine go_puti rfl ⟨_, rfl, rfl, by decide, by decide⟩ rfl rfl ?_
      refine go_ald_2_0 rfl ?_
      refine go_geti rfl ⟨_, rfl, rfl, by decide, by decide⟩ ?_
      rw [qb_t0 (by omega)]
      refine go_ifeq rfl (fun e => ?_) (fun e => ?_)
      · refine go_c rfl ?_
        exact fin_i rfl rfl rfl
      · refine go_ild_2_1 rfl ?_
        refine go_c rfl ?_
        refine go_c rfl ?_
        refine go_call3 rfl (sp_isIn (d + 18) _ _ _ _) (Nat.le_of_ble_eq_true rfl) rfl ?_
        have hx' : ¬ ((0 : Int32) ≤ x ∧ x ≤ 3) := fun z => by
          obtain ⟨j, j1, j2, rfl⟩ := qx_in1 (a := 0) (b := 3) (by decide) z.1 z.2 (by decide)
          exact hx ⟨z.1, nI_lt (by omega) (by decide)⟩
        rw [qB_f hx']
        refine go_ifeq rfl (fun e2 => ?_) (fun e2 => ?_)
        · refine go_c rfl ?_
          exact fin_i rfl rfl rfl
        · exact absurd rfl e2
theorem qT_count (d : Nat) (x : Int32) : qT (d + 20) 159 293 [.int x] := qT_ro fun s c hZ => by
  obtain ⟨hx0, nw, nm, ns, V, F0, lo, hi, se, h1, h2, h3, h4⟩ := id hZ
  obtain ⟨a1, a2, a3, a4, a5⟩ := h1.2.1
  obtain ⟨b1, b2, b3, b4, b5⟩ := h1.2.2.1
  obtain ⟨n, n0, n1, n2, n3⟩ := hx0.1
  by_cases q0 : x = 0
  · subst q0
    refine ⟨nI nw, ?_, ?_⟩
    · refine (en_159 (d + 19) 64 0 _).trans ?_
      refine go_ild_2_1 rfl ?_
      refine go_sw2 (n := 36) rfl (by decide +kernel) ?_
      refine go_ald_2_0 rfl ?_
      refine go_getr rfl ⟨_, rfl, rfl, by decide, by decide⟩ ?_
      refine go_geti rfl ⟨_, rfl, rfl, by decide, by decide⟩ ?_
      exact fin_i rfl rfl (qR_i a1)
    · rintro t rfl
      refine (en_293 (d + 19) 192 0 _).trans ?_
      refine go_ald_2_0 rfl ?_
      refine go_c rfl ?_
      refine go_puti rfl ⟨_, rfl, rfl, by decide, by decide⟩ rfl rfl ?_
      refine go_ild_2_1 rfl ?_
      refine go_sw2 (n := 40) rfl (by decide +kernel) ?_
      refine go_ald_2_0 rfl ?_
      refine go_getr rfl ⟨_, rfl, rfl, by decide, by decide⟩ ?_
      refine go_c rfl ?_
      refine go_iald (j := 0) rfl ⟨rfl, by decide, by decide, by decide⟩ rfl (by decide) ?_
      exact fin_i rfl rfl (qR_i ((qb_t0 (by omega)).trans b1))
  by_cases q1 : x = 1
  · subst q1
    refine ⟨nI nm, ?_, ?_⟩
    · refine (en_159 (d + 19) 64 1 _).trans ?_
      refine go_ild_2_1 rfl ?_
      refine go_sw2 (n := 44) rfl (by decide +kernel) ?_
      refine go_ald_2_0 rfl ?_
      refine go_getr rfl ⟨_, rfl, rfl, by decide, by decide⟩ ?_
      refine go_geti rfl ⟨_, rfl, rfl, by decide, by decide⟩ ?_
      exact fin_i rfl rfl (qR_i a2)
    · rintro t rfl
      refine (en_293 (d + 19) 192 1 _).trans ?_
      refine go_ald_2_0 rfl ?_
      refine go_c rfl ?_
      refine go_puti rfl ⟨_, rfl, rfl, by decide, by decide⟩ rfl rfl ?_
      refine go_ild_2_1 rfl ?_
      refine go_sw2 (n := 47) rfl (by decide +kernel) ?_
      refine go_ald_2_0 rfl ?_
      refine go_getr rfl ⟨_, rfl, rfl, by decide, by decide⟩ ?_
      refine go_c rfl ?_
      refine go_iald (j := 1) rfl ⟨rfl, by decide, by decide, by decide⟩ rfl (by decide) ?_
      exact fin_i rfl rfl (qR_i ((qb_t0 (by omega)).trans b2))
  by_cases q2 : x = 2
  · subst q2
    refine ⟨nI ns, ?_, ?_⟩
    · refine (en_159 (d + 19) 64 2 _).trans ?_
      refine go_ild_2_1 rfl ?_
      refine go_sw2 (n := 52) rfl (by decide +kernel) ?_
      refine go_ald_2_0 rfl ?_
      refine go_getr rfl ⟨_, rfl, rfl, by decide, by decide⟩ ?_
      refine go_geti rfl ⟨_, rfl, rfl, by decide, by decide⟩ ?_
      exact fin_i rfl rfl (qR_i a3)
    · rintro t rfl
      refine (en_293 (d + 19) 192 2 _).trans ?_
      refine go_ald_2_0 rfl ?_
      refine go_c rfl ?_
      refine go_puti rfl ⟨_, rfl, rfl, by decide, by decide⟩ rfl rfl ?_
      refine go_ild_2_1 rfl ?_
      refine go_sw2 (n := 54) rfl (by decide +kernel) ?_
      refine go_ald_2_0 rfl ?_
      refine go_getr rfl ⟨_, rfl, rfl, by decide, by decide⟩ ?_
      refine go_c rfl ?_
      refine go_iald (j := 2) rfl ⟨rfl, by decide, by decide, by decide⟩ rfl (by decide) ?_
      exact fin_i rfl rfl (qR_i ((qb_t0 (by omega)).trans b3))
  by_cases q3 : x = 3
  · subst q3
    refine ⟨nI V, ?_, ?_⟩
    · refine (en_159 (d + 19) 64 3 _).trans ?_
      refine go_ild_2_1 rfl ?_
      refine go_sw2 (n := 60) rfl (by decide +kernel) ?_
      refine go_ald_2_0 rfl ?_
      refine go_getr rfl ⟨_, rfl, rfl, by decide, by decide⟩ ?_
      refine go_geti rfl ⟨_, rfl, rfl, by decide, by decide⟩ ?_
      exact fin_i rfl rfl (qR_i a4)
    · rintro t rfl
      refine (en_293 (d + 19) 192 3 _).trans ?_
      refine go_ald_2_0 rfl ?_
      refine go_c rfl ?_
      refine go_puti rfl ⟨_, rfl, rfl, by decide, by decide⟩ rfl rfl ?_
      refine go_ild_2_1 rfl ?_
      refine go_sw2 (n := 61) rfl (by decide +kernel) ?_
      refine go_ald_2_0 rfl ?_
      refine go_getr rfl ⟨_, rfl, rfl, by decide, by decide⟩ ?_
      refine go_c rfl ?_
      refine go_iald (j := 3) rfl ⟨rfl, by decide, by decide, by decide⟩ rfl (by decide) ?_
      exact fin_i rfl rfl (qR_i ((qb_t0 (by omega)).trans b4))
  by_cases q4 : x = 4
  · subst q4
    refine ⟨nI n, ?_, ?_⟩
    · refine (en_159 (d + 19) 64 4 _).trans ?_
      refine go_ild_2_1 rfl ?_
      refine go_sw2 (n := 68) rfl (by decide +kernel) ?_
      refine go_ald_2_0 rfl ?_
      refine go_getr rfl ⟨_, rfl, rfl, by decide, by decide⟩ ?_
      refine go_geti rfl ⟨_, rfl, rfl, by decide, by decide⟩ ?_
      exact fin_i rfl rfl (qR_i n1)
    · rintro t rfl
      refine (en_293 (d + 19) 192 4 _).trans ?_
      refine go_ald_2_0 rfl ?_
      refine go_c rfl ?_
      refine go_puti rfl ⟨_, rfl, rfl, by decide, by decide⟩ rfl rfl ?_
      refine go_ild_2_1 rfl ?_
      refine go_sw2 (n := 68) rfl (by decide +kernel) ?_
      refine go_ald_2_0 rfl ?_
      refine go_geti rfl ⟨_, rfl, rfl, by decide, by decide⟩ ?_
      exact fin_i rfl rfl (qR_i ((qb_t0 (by omega)).trans n2))
  refine ⟨-1, ?_, ?_⟩
  · refine (en_159 (d + 19) 64 x _).trans ?_
    refine go_ild_2_1 rfl ?_
    refine go_sw2 (n := 76) rfl (by simp [qa_sw, q0, q1, q2, q3, q4]) ?_
    refine go_c rfl ?_
    exact fin_i rfl rfl rfl
  · rintro t rfl
    refine (en_293 (d + 19) 192 x _).trans ?_
    refine go_ald_2_0 rfl ?_
    refine go_c rfl ?_
    refine go_puti rfl ⟨_, rfl, rfl, by decide, by decide⟩ rfl rfl ?_
    refine go_ild_2_1 rfl ?_
    refine go_sw2 (n := 73) rfl (by simp [qa_sw, q0, q1, q2, q3, q4]) ?_
    refine go_c rfl ?_
    exact fin_i rfl rfl rfl
theorem qT_end (d : Nat) (x : Int32) : qT (d + 20) 16 164 [.int x] := fun s c hZ => by
  obtain ⟨⟨⟨n, n0, n1, n2, n3⟩, hr⟩, hz⟩ := id hZ
  by_cases hx : 0 ≤ x ∧ x ≤ nI n
  · obtain ⟨j, j1, j2, rfl⟩ := qx_in1 (a := 0) (b := n) (by omega) hx.1 hx.2 (by decide)
    refine ⟨1, qb_ui s 65 1 (nI j), qb_ui (qb_ui (qb_ui s 65 1 (nI j)) 192 0 0) 192 2 (nI j), ?_, ?_, ?_⟩
    · refine (en_16 (d + 19) 64 (nI j) _).trans ?_
      refine go_ild_2_1 rfl ?_
      refine go_iflt rfl (fun e => ?_) (fun e => ?_)
      · exact absurd e (nI_pos (by omega))
      · refine go_ild_2_1 rfl ?_
        refine go_ald_2_0 rfl ?_
        refine go_getr rfl ⟨_, rfl, rfl, by decide, by decide⟩ ?_
        refine go_geti rfl ⟨_, rfl, rfl, by decide, by decide⟩ ?_
        rw [n1]
        refine go_icle rfl (fun e2 => ?_) (fun e2 => ?_)
        · refine go_ald_2_0 rfl ?_
          refine go_getr rfl ⟨_, rfl, rfl, by decide, by decide⟩ ?_
          refine go_ild_2_1 rfl ?_
          refine go_puti rfl ⟨_, rfl, rfl, by decide, by decide⟩ rfl rfl ?_
          refine go_c rfl ?_
          exact fin_i rfl rfl rfl
        · exact absurd hx.2 e2
    · refine (en_164 (d + 19) 192 (nI j) _).trans ?_
      refine go_ald_2_0 rfl ?_
      refine go_c rfl ?_
      refine go_puti rfl ⟨_, rfl, rfl, by decide, by decide⟩ rfl rfl ?_
      refine go_ild_2_1 rfl ?_
      refine go_iflt rfl (fun e => ?_) (fun e => ?_)
      · exact absurd e (nI_pos (by omega))
      · refine go_ild_2_1 rfl ?_
        refine go_ald_2_0 rfl ?_
        refine go_geti rfl ⟨_, rfl, rfl, by decide, by decide⟩ ?_
        rw [show (qb_ui (qb_ui s 65 1 (nI j)) 192 0 0).1 192 2 = nI n from (qb_t0 (by omega)).trans ((qb_ui_1n (by decide)).trans n2)]
        refine go_icle rfl (fun e2 => ?_) (fun e2 => ?_)
        · refine go_ald_2_0 rfl ?_
          refine go_ild_2_1 rfl ?_
          refine go_puti rfl ⟨_, rfl, rfl, by decide, by decide⟩ rfl rfl ?_
          refine go_c rfl ?_
          exact fin_i rfl rfl rfl
        · exact absurd hx.2 e2
    · have hf : qG (fun x k => x = 65 ∧ k = 1 ∨ x = 192 ∧ (k = 0 ∨ k = 2)) s (qb_ui (qb_ui (qb_ui s 65 1 (nI j)) 192 0 0) 192 2 (nI j)) := ((qG.rf.ui (by omega)).ui (by omega)).ui (by omega)
      obtain ⟨⟨-, h2, h3, h4, h5, h6⟩, nw, nm, ns, V, F0, lo, hi, se, g1, g2, g3, g4⟩ := hZ
      refine ⟨⟨⟨j, by omega, (qb_ui_1n (by decide)).trans ((qb_ui_1n (by decide)).trans qb_ui_1s), qb_ui_1s, fun k hk => ?_⟩, h2.mv hf (by decide) (Or.inl rfl) (fun x k hx => by omega), h3.mv hf (by decide) (Or.inr rfl) (fun x k hx => by omega), h4.mv hf (fun x k hx => by omega), h5.mv hf (fun x k hx => by omega), h6.mv hf (fun x k hx => by omega)⟩, nw, nm, ns, V, F0, lo, hi, se, g1.mv hf (fun x k hx => by omega) (fun k _ _ => by omega) (fun k _ _ => by omega), ?_, g3.mv hf (fun x k hx => by omega) (fun k _ _ => by omega), g4.mv hf (fun x k hx => by omega)⟩
      · rw [hf.i (x := 66) (by omega), hf.i (x := 193) (by omega)]
        exact n3 k (by omega)
      · rw [qs_so_G hf (fun x k hx => by omega), qm_so_G hf (fun k hk => by omega)]
        exact g2
  · refine ⟨0, s, qb_ui s 192 0 0, ?_, ?_, hZ.thr 0⟩
    · refine (en_16 (d + 19) 64 x _).trans ?_
      refine go_ild_2_1 rfl ?_
      refine go_iflt rfl (fun e => ?_) (fun e => ?_)
      · refine go_c rfl ?_
        exact fin_i rfl rfl rfl
      · refine go_ild_2_1 rfl ?_
        refine go_ald_2_0 rfl ?_
        refine go_getr rfl ⟨_, rfl, rfl, by decide, by decide⟩ ?_
        refine go_geti rfl ⟨_, rfl, rfl, by decide, by decide⟩ ?_
        rw [n1]
        refine go_icle rfl (fun e2 => ?_) (fun e2 => ?_)
        · exact absurd ⟨Int32.not_lt.mp e, e2⟩ hx
        · refine go_c rfl ?_
          exact fin_i rfl rfl rfl
    · refine (en_164 (d + 19) 192 x _).trans ?_
      refine go_ald_2_0 rfl ?_
      refine go_c rfl ?_
      refine go_puti rfl ⟨_, rfl, rfl, by decide, by decide⟩ rfl rfl ?_
      refine go_ild_2_1 rfl ?_
      refine go_iflt rfl (fun e => ?_) (fun e => ?_)
      · refine go_c rfl ?_
        exact fin_i rfl rfl rfl
      · refine go_ild_2_1 rfl ?_
        refine go_ald_2_0 rfl ?_
        refine go_geti rfl ⟨_, rfl, rfl, by decide, by decide⟩ ?_
        rw [show (qb_ui s 192 0 0).1 192 2 = nI n from (qb_t0 (by omega)).trans n2]
        refine go_icle rfl (fun e2 => ?_) (fun e2 => ?_)
        · exact absurd ⟨Int32.not_lt.mp e, e2⟩ hx
        · refine go_c rfl ?_
          exact fin_i rfl rfl rfl
