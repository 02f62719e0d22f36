/-! THE LAW'S BEGINNING -/
def q0_lk (s : qb_M) : Prop := (s.1 65 1 = 0 ∧ s.1 192 2 = 0) ∧ (s.2.2 155 0 = some 156 ∧ s.2.2 155 1 = some 173 ∧ s.1 156 3 = 0 ∧ s.1 173 3 = 0 ∧ s.1 202 0 = 0 ∧ s.1 202 1 = 0) ∧ (s.1 64 14 = 0 ∧ s.1 192 34 = 0) ∧ (s.1 192 39 = 0 ∧ ∀ j, j < 4 → s.1 191 j = -1) ∧ (s.1 64 15 = s.1 192 27 ∧ s.1 64 16 = s.1 192 30 ∧ s.1 64 17 = s.1 192 31 ∧ s.1 65 2 = s.1 192 10) ∧ (s.1 67 5 = nI 4 ∧ s.1 67 6 = nI 0 ∧ s.1 67 7 = nI 0 ∧ s.1 67 8 = nI 1 ∧ s.1 67 9 = nI 0) ∧ (s.1 194 0 = nI 4 ∧ s.1 194 1 = nI 0 ∧ s.1 194 2 = nI 0 ∧ s.1 194 3 = nI 1 ∧ s.1 194 4 = nI 0) ∧ ((∀ k, k < 40 → qs_so s 73 k = qs_s0 (nI 0) k) ∧ ∀ k, k < 40 → qm_so s k = qs_s0 (nI 0) k) ∧ (s.1 78 4 = 0 ∧ s.1 78 5 = 0 ∧ s.1 194 70 = 0) ∧ (∀ i, i < 8 → s.2.2 84 i = some (85 + 5 * i)) ∧ s.1 83 1 = 0 ∧ s.1 83 2 = 0 ∧ s.1 192 24 = 0
set_option maxRecDepth 100000 in
theorem q0_ex : ∃ s : qb_M, q0_5 = qb_hp s ∧ q0_lk s := ⟨q0_s q0_5, q0_hp, by unfold q0_lk; decide +kernel⟩
theorem q0_qZ {s : qb_M} (h : q0_lk s) : qZ s := by
  obtain ⟨⟨a1, a2⟩, ⟨b1, b2, b3, b4, b5, b6⟩, ⟨c1, c2⟩, hb, hr, ⟨p1, p2, p3, p4, p5⟩, ⟨m1, m2, m3, m4, m5⟩, ⟨g1, g2⟩, ⟨w1, w2, w3⟩, k1, k2, k3, k4⟩ := h
  refine ⟨⟨qZt_0 a1 a2, ⟨b1, Or.inl ⟨b3, b5⟩⟩, ⟨b2, Or.inl ⟨b4, b6⟩⟩, ⟨0, by decide, c1, c2, fun j hj => absurd hj (Nat.not_lt_zero j)⟩, Or.inl hb, hr⟩, 4, 0, 0, 1, 0, fun _ => 0, fun _ => 0, fun _ => 0, ?_, ?_, ?_, ?_⟩
  · exact ⟨by decide, ⟨p1, p2, p3, p4, p5⟩, ⟨m1, m2, m3, m4, m5⟩, fun k hk => absurd hk (Nat.not_lt_zero k), fun k hk => absurd hk (Nat.not_lt_zero k)⟩
  · exact qs_s0_in (F0 := 0) (by decide) g1 g2
  · exact ⟨0, 0, w1, by decide, w2, by decide, Or.inl ⟨rfl, rfl, w3⟩⟩
  · exact ⟨k1, 0, 0, by decide, by decide, k2, k3, k4, fun j hj => absurd hj (Nat.not_lt_zero j)⟩
theorem go_newk {o : qa_O} {cd : qa_Cd} {pc n ci k m a M : Nat} {ds : List Value} {R : Option (Option Value × qa_H)} {L S : List Value} {h h' : qa_H} (hc : cd pc = some (qa_q (qh_new ci ds n))) (hh : h.2 = (k, k, m)) (ha : a = 64 + k) (hM : M = m + ds.length) (he : (qa_up h.1 a (.inr (ci, ds)), k + 1, k + 1, M) = h') (kk : qa_lm o cd (n, L, .ref a :: S, h') = R) : qa_lm o cd (pc, L, S, h) = R := by
  obtain ⟨f, g⟩ := h
  have hg : g = (k, k, m) := hh
  subst hg ha hM he
  have e : qh_new ci ds n L S (f, k, k, m) = some (n, L, .ref (64 + k) :: S, (qa_up f (64 + k) (.inr (ci, ds)), k + 1, k + 1, m + ds.length)) := if_pos rfl
  exact (qa_go hc (by unfold qa_q; rw [e])).trans kk
theorem go_newl {o : qa_O} {cd : qa_Cd} {pc n t k m a M : Nat} {R : Option (Option Value × qa_H)} {L S : List Value} {h h' : qa_H} (hc : cd pc = some (qa_q (qh_newa t .long n))) (hh : h.2 = (k, k, m)) (ha : a = 64 + k) (hM : M = m + 1) (he : (qa_up h.1 a (.inl (t, 1, .inr (.inl (fun _ => 0)))), k + 1, k + 1, M) = h') (kk : qa_lm o cd (n, L, .ref a :: S, h') = R) : qa_lm o cd (pc, L, .int 1 :: S, h) = R := by
  obtain ⟨f, g⟩ := h
  have hg : g = (k, k, m) := hh
  subst hg ha hM he
  have e : qh_newa t .long n L (.int 1 :: S) (f, k, k, m) = some (n, L, .ref (64 + k) :: S, (qa_up f (64 + k) (.inl (t, 1, .inr (.inl (fun _ => 0)))), k + 1, k + 1, m + 1)) := by
    unfold qh_newa
    dsimp only
    rw [if_pos ⟨rfl, by decide, by decide⟩, if_pos rfl]
    rfl
  exact (qa_go hc (by unfold qa_q; rw [e])).trans kk
theorem la_all {N : Nat} (xs : Nat → Int32) (hN : N ≤ 384) : ∃ hE : qa_H, qa_lm (qe 100) (qa_cd (qc_law N xs)) (0, qa_ent 7 [.ref 40], [], qa_h0 q0_f) = some (some (.int 1), hE) ∧ hE.2.2.1 ≤ 600128 ∧ hE.2.2.2 ≤ 7301098 := by
  obtain ⟨s, hs, hk⟩ := q0_ex
  obtain ⟨hE, e1, e2, e3⟩ := la_loop (xs := xs) hN 64 0 (149, 8656) s (.retAddr 0) (.retAddr 0) (by omega) (by omega) (q0_qZ hk) (Or.inl rfl) (Or.inl rfl)
  have e2 : hE.2.2.1 ≤ 149 + 64 := e2
  have e3 : hE.2.2.2 ≤ 8656 + 6 * 64 := e3
  refine ⟨hE, ?_, by omega, by omega⟩
  rw [← hs] at e1
  show qa_lm (qe 100) (qa_cd (qc_law N xs)) (0, [.ref 40, .retAddr 0, .retAddr 0, .retAddr 0, .retAddr 0, .retAddr 0, .retAddr 0], [], (q0_f, 0, 0, 0)) = _
  refine go_newk (k := 0) (m := 0) (a := 64) (M := 18) (h' := q0_1) rfl rfl rfl rfl rfl ?_
  refine go_dup_ref rfl ?_
  refine go_call1 (g := q0_2) rfl (q0_use q0_A.1).1 (Nat.le_of_ble_eq_true rfl) (by decide +kernel) ?_
  refine go_ast_7_1 (x := 64) (S := []) rfl rfl ?_
  refine go_newk (k := 128) (m := 4724) (a := 192) (M := 4769) (h' := q0_3) rfl q0_A.2 rfl rfl rfl ?_
  refine go_dup_ref rfl ?_
  refine go_call1 (g := q0_4) rfl (q0_use q0_B.1).1 (Nat.le_of_ble_eq_true rfl) (by decide +kernel) ?_
  refine go_ast_7_2 (x := 192) (S := []) rfl rfl ?_
  refine go_c rfl ?_
  refine go_newl (k := 148) (m := 8655) (a := 212) (M := 8656) (h' := (q0_5, 149, 149, 8656)) rfl q0_B.2 rfl rfl rfl ?_
  refine go_ast_7_3 rfl rfl ?_
  refine go_c rfl ?_
  refine go_ist_7_4 rfl rfl ?_
  exact e1
