/-! a sentence: how a one ends -/
theorem pm_tail (d : Nat) (c : Nat × Nat) (B u : qb_M) (l1 l2 : Value) {r : Int32} (hr : r = 0 ∨ r = 1) : qa_lm (qe (d)) (qa_cd qc_281) (166, [.ref 192, l1, l2, .int r], [], (qb_hp (qj u B), 149, c)) = some (some (.int (r)), (qb_hp (qj u (qb_ui B 192 43 (B.1 192 43 - 1))), 149, c)) := by
  refine go_ald_4_0 rfl ?_
  refine go_dup_ref rfl ?_
  refine go_geti rfl ⟨_, rfl, rfl, by decide, by decide⟩ ?_
  rw [show (qj u B).1 192 43 = B.1 192 43 from qj_I (by decide)]
  refine go_c rfl ?_
  refine go_isub rfl ?_
  refine go_puti rfl ⟨_, rfl, rfl, by decide, by decide⟩ rfl rfl ?_
  rw [qj_UI (by decide)]
  refine go_ild_4_3 rfl ?_
  rcases hr with hr | hr <;> subst hr <;> exact fin_i rfl rfl rfl
theorem pm_tailW (d : Nat) (c : Nat × Nat) (B u : qb_M) (l1 l2 : Value) {W : Nat} (h43 : B.1 192 43 = nI (W + 1)) : qa_lm (qe (d)) (qa_cd qc_281) (166, [.ref 192, l1, l2, .int 1], [], (qb_hp (qj u B), 149, c)) = some (some (.int (1)), (qb_hp (qj u (qb_ui B 192 43 (nI W))), 149, c)) := by
  have := pm_tail d c B u l1 l2 (Or.inr (rfl : (1 : Int32) = 1))
  rw [h43, nI_p1] at this
  exact this
theorem one_good (d d' : Nat) (c : Nat × Nat) {M A1 B1 : qb_M} {n l : Nat} {b : Nat → Nat} {p : Nat} {a o W ns : Nat} (ho : o < 20) (ha : a < 40) (a2 : A1.1 150 5 = nI (o + 1)) (a3 : qG (fun x k => x = 65 ∧ 5 ≤ k ∧ k ≤ 10 ∨ x = 150 ∧ k = 5) M A1) (b2 : B1.1 192 42 = nI (o + 1)) (b4 : qG (fun x k => x = 192 ∧ (5 ≤ k ∧ k ≤ 9 ∨ k = 12 ∨ k = 42 ∨ k = 43)) M B1) {A' B' : qb_M} {p' : Nat} (hw : wC A1 B1 A' B' a ns n l b p') (hp' : p < p') (hc : ∀ u, qe (d) 143 [.ref 150, .ref 65, .ref 67, .int (nI (W + 1))] (qb_hp (qj M u), 149, c) = some (some (.int (1)), (qb_hp (qj A' u), 149, c))) (hm : ∀ u, qe (d') 281 [.ref 192] (qb_hp (qj u M), 149, c) = some (some (.int (1)), (qb_hp (qj u (qb_ui B' 192 43 (nI W))), 149, c))) : oneS d d' c n l b p ns M a o W := by
  obtain ⟨q3, q4, q5, q6, q7, q8, q9, q10⟩ := hw
  have gA : qG (wF a) M A' := (a3.mo (fun x k h => by unfold wF; omega)).tr (q9.mo (fun x k h => by unfold wF; omega))
  have gB : qG (wF a) M (qb_ui B' 192 43 (nI W)) := ((b4.mo (fun x k h => by unfold wF; omega)).tr (q10.mo (fun x k h => by unfold wF; omega))).ui (by unfold wF; omega)
  refine bo_good (A := A') (B := qb_ui B' 192 43 (nI W)) (p' := p') (P1 := wF a) (Q1 := wF a) hc hm hp' q3 (q4.mv (P := fun x k => x = 192 ∧ k = 43) (qG.rf.ui ⟨rfl, rfl⟩) (fun x k h => by omega)) ?_ gA gB (fun x j h => h.elim (fun z => z.2) (fun z => z.2))
  refine ⟨a + 1, o + 1, ⟨⟨q6, ?_⟩, ⟨(q9.i (by omega)).trans a2, ?_⟩, ?_⟩, by omega, by omega, by omega, ?_, ?_⟩
  · show (qb_ui B' 192 43 (nI W)).1 192 41 = _
    exact (qb_ui_1n (by omega)).trans q7
  · show (qb_ui B' 192 43 (nI W)).1 192 42 = _
    exact (qb_ui_1n (by omega)).trans ((q10.i (by omega)).trans b2)
  · show (qb_ui B' 192 43 (nI W)).1 192 43 = _
    exact qb_ui_1s
  · show (qb_ui B' 192 43 (nI W)).1 192 44 = nI (a + 1 - 1)
    exact (qb_ui_1n (by omega)).trans q8
  · rw [show a + 1 - a = 0 + 1 by omega]
    refine ⟨by omega, by omega, Or.inl ⟨rfl, wL_mv q5 ⟨rfl, rfl, rfl⟩ (fun j _ _ => ?_)⟩⟩
    show (qb_ui B' 192 43 (nI W)).1 211 j = B'.1 211 j
    exact qb_ui_1n (by omega)
theorem one_bad (d d' : Nat) (c : Nat × Nat) {M A B : qb_M} {n l : Nat} {b : Nat → Nat} {p : Nat} {a o W ns : Nat} {f pl : Nat} {v : Int32} (hpl : pl ≤ 940) (gA : qG (wF 0) M A) (gB : qG (wF 0) M B) (hc : ∀ u, qe (d) 143 [.ref 150, .ref 65, .ref 67, .int (nI (W + 1))] (qb_hp (qj M u), 149, c) = some (some (.int (0)), (qb_hp (qj (fC A f pl) u), 149, c))) (hm : ∀ u, qe (d') 281 [.ref 192] (qb_hp (qj u M), 149, c) = some (some (.int (0)), (qb_hp (qj u (qb_ui (fM B f pl) 192 43 v)), 149, c))) : oneS d d' c n l b p ns M a o W := by
  have gA' : qG wG M (fC A f pl) := (gA.mo (fun x k h => Or.inl h)).tr (fC_G.mo (fun x k h => Or.inr (Or.inl h)))
  have gB' : qG wG M (qb_ui (fM B f pl) 192 43 v) := ((gB.mo (fun x k h => Or.inl h)).tr (fM_G.mo (fun x k h => Or.inr (Or.inr h)))).ui (Or.inl (by unfold wF; omega))
  refine ⟨qj (fC A f pl) (qb_ui (fM B f pl) 192 43 v), 0, fun u => by rw [qj_j]; exact hc u, fun u => by rw [qj_J]; exact hm u, Or.inr ⟨rfl, ⟨f, pl, hpl, rfl, rfl, rfl, rfl⟩, (qj_G gA' gB').mo (fun x k h => h.elim (fun z => z.2) (fun z => z.2))⟩⟩
/-- the reference's word is the one at hand -/
theorem pm_this {n l : Nat} {b : Nat → Nat} {p y y' : Nat} (hy : 14 ≤ y ∧ y ≤ 22) (hA : wA n l b p y) (h : tx_k n l b p = 40 ∧ y' = 23 ∨ 14 ≤ y' ∧ y' ≤ 22 ∧ wA n l b p y') : y' = y := by
  rcases h with ⟨z, _⟩ | ⟨z1, z2, z3⟩
  · have := hA.1; omega
  · exact wA_one ⟨z1, z2⟩ hy z3 hA
theorem pc_word {M : qb_M} {n l : Nat} {b : Nat → Nat} {p y : Nat} (hC : rC M n l b p) (hA : wA n l b p y) : M.2.2 65 10 = some (tx_pm y) := by
  rw [(hC.2.2.2.2.2.1 hA.1).2, hA.2]
/-- a one with a sister's name -/
theorem one_by (d d' : Nat) (c : Nat × Nat) {M : qb_M} {n l : Nat} {b : Nat → Nat} {p : Nat} (hC : rC M n l b p) (hM : rM M n l b p) {a o W ns : Nat} (hS : wS M a o W) (ho : o < 20) (hW : W < 8) (ha : a < 40) (hN : wN M M ns) (hA : wA n l b p 18) : oneS (d + 7) (d' + 8) c n l b p ns M a o W := by
  have hx : wX n l b p := Or.inr ⟨18, by omega, by omega, hA⟩
  have hk2 := hA.1
  have hwd : M.2.2 65 10 = some 18 := pc_word hC hA
  obtain ⟨A1, a1, a2, a3, a4⟩ := pc_one (d + 3) c hC hS hx ho hW
  obtain ⟨B1, b1, b2, b3, b4, b5⟩ := pm_one (d' + 4) c hM hS hx ho hW
  have e1 := tx_e_lt hC.1 (by omega) (by omega : tx_k n l b p ≠ 1)
  have hN1 : wN A1 B1 ns := ⟨(a3.i (by omega)).trans hN.1, (b4.i (by omega)).trans hN.2.1, hN.2.2.1, fun k hk => by rw [a3.l (by omega), b4.l (by omega)]; exact hN.2.2.2 k hk⟩
  have cE : ∀ u R, qa_lm (qe (d + 6)) (qa_cd qc_143) (132, [.ref 150, .ref 65, .ref 67, .int (nI (W + 1)), .ref 18], [], (qb_hp (qj A1 u), 149, c)) = R → qe (d + 7) 143 [.ref 150, .ref 65, .ref 67, .int (nI (W + 1))] (qb_hp (qj M u), 149, c) = R := fun u R hR => a4 u _ (by
    rw [hwd]
    refine go_ald_5_4 rfl ?_
    refine go_ifnonnull_r rfl ?_
    refine go_ald_5_4 rfl ?_
    refine go_c rfl ?_
    refine go_acne (r := some 18) (q := some 15) rfl rfl rfl (fun e => absurd (Option.some.inj e) (by omega)) (fun e => ?_)
    refine go_ald_5_4 rfl ?_
    refine go_c rfl ?_
    refine go_acne (r := some 18) (q := some 18) rfl rfl rfl (fun _ => ?_) (fun e => absurd rfl e)
    exact hR)
  have mE : ∀ u R, qa_lm (qe (d' + 7)) (qa_cd qc_281) (152, [.ref 192, .int 0, .int (nI 18), .int 1], [], (qb_hp (qj u B1), 149, c)) = R → qe (d' + 8) 281 [.ref 192] (qb_hp (qj u M), 149, c) = R := fun u R hR => by
    obtain ⟨y', hy', hgo⟩ := b5 u
    have hyy := pm_this (by omega) hA hy'
    subst hyy
    refine hgo _ ?_
    rw [qB_f (by omega)]
    refine go_ild_4_1 rfl ?_
    refine go_ifeq rfl (fun e2 => ?_) (fun e2 => ?_)
    · refine go_ild_4_2 rfl ?_
      refine go_c rfl ?_
      refine go_icne rfl (fun e3 => ?_) (fun e3 => ?_)
      · exact absurd e3 (by decide)
      · refine go_ild_4_2 rfl ?_
        refine go_c rfl ?_
        refine go_icge rfl (fun e4 => ?_) (fun e4 => ?_)
        · refine go_ild_4_2 rfl ?_
          refine go_c rfl ?_
          refine go_icge rfl (fun e5 => ?_) (fun e5 => ?_)
          · exact absurd e5 (by decide)
          · exact hR
        · exact absurd (by decide) e4
    · exact absurd rfl e2
  have n2 : ∀ u, (qj u B1).1 194 2 = nI ns := fun u => hN1.2.1
  rcases sn_sister d d' (d' + 5) c a1 b1 ha ((a3.i (by omega)).trans hS.1.1) ((b4.i (by omega)).trans hS.1.2) hN1 with ⟨k2, v, A', B2, B', q1, q2, q3, q4, q5⟩ | ⟨f, B', g, q1, q2⟩
  · have h43 : (qb_ui B' 192 44 (nI a)).1 192 43 = nI (W + 1) := (q5.2.2.2.2.2.2.2.i (by omega)).trans b3
    refine one_good (d + 7) (d' + 8) c ho ha a2 a3 b2 b4 q5 (Nat.lt_trans e1 (tx_e_lt a1.1 (by omega) (by omega))) (fun u => cE u _ ?_) (fun u => mE u _ ?_)
    · refine go_ald_5_0 rfl ?_
      refine go_ald_5_1 rfl ?_
      refine go_ald_5_2 rfl ?_
      refine go_call3 rfl (q1 u) (Nat.le_of_ble_eq_true rfl) (qb_qv rfl (by decide) (by decide)) ?_
      exact fin_i rfl rfl rfl
    · have h286 : qe (d' + 6) 286 [.ref 192, .int (nI 18)] (qb_hp (qj u B1), 149, c) = some (some (.int (1)), (qb_hp (qj u B2), 149, c)) := by
        refine (en_286 (d' + 5) 192 (nI 18) _).trans ?_
        refine go_ild_2_1 rfl ?_
        refine go_c rfl ?_
        refine go_icne rfl (fun e => ?_) (fun e => ?_)
        · exact absurd e (by decide)
        · refine go_ald_2_0 rfl ?_
          refine go_c rfl ?_
          refine go_ald_2_0 rfl ?_
          refine go_getr rfl ⟨_, rfl, rfl, by decide, by decide⟩ ?_
          refine go_c rfl ?_
          refine go_iald (j := 2) rfl ⟨rfl, by decide, by decide, by decide⟩ rfl (by decide) ?_
          rw [n2]
          refine go_call3 rfl (q2 u) (Nat.le_of_ble_eq_true rfl) (qb_qv rfl (by decide) (by decide)) ?_
          exact fin_i rfl rfl rfl
      have h285 : qe (d' + 7) 285 [.ref 192, .int (nI 18)] (qb_hp (qj u B1), 149, c) = some (some (.int (1)), (qb_hp (qj u (qb_ui B' 192 44 (nI a))), 149, c)) := by
        refine (en_285 (d' + 6) 192 (nI 18) _).trans ?_
        refine go_ald_2_0 rfl ?_
        refine go_ild_2_1 rfl ?_
        refine go_call2 rfl (h286) (Nat.le_of_ble_eq_true rfl) (qb_qv rfl (by decide) (by decide)) ?_
        refine go_ifne rfl (fun e => ?_) (fun e => ?_)
        · exact absurd e (by decide)
        · refine go_ald_2_0 rfl ?_
          refine go_ald_2_0 rfl ?_
          refine go_c rfl ?_
          refine go_ild_2_1 rfl ?_
          refine go_iadd rfl ?_
          refine go_ald_2_0 rfl ?_
          refine go_geti rfl ⟨_, rfl, rfl, by decide, by decide⟩ ?_
          rw [show (qj u B2).1 192 13 = nI v from q3]
          refine go_c rfl ?_
          refine go_c rfl ?_
          refine go_call5 rfl (q4 u) (Nat.le_of_ble_eq_true rfl) (qb_qv rfl (by decide) (by decide)) ?_
          refine go_puti rfl ⟨_, rfl, rfl, by decide, by decide⟩ rfl rfl ?_
          rw [qj_UI (by decide)]
          refine go_c rfl ?_
          exact fin_i rfl rfl rfl
      refine go_ald_4_0 rfl ?_
      refine go_ild_4_2 rfl ?_
      refine go_call2 rfl (h285) (Nat.le_of_ble_eq_true rfl) (qb_qv rfl (by decide) (by decide)) ?_
      refine go_goto rfl ?_
      refine go_ist_4_3 rfl rfl ?_
      exact pm_tailW _ c _ u _ _ h43
  · refine one_bad (d + 7) (d' + 8) c (A := A1) (B := B') (f := f) (pl := tx_p n l b (tx_e n l b p)) (v := (fM B' f (tx_p n l b (tx_e n l b p))).1 192 43 - 1) (tx_p9 a1) (a3.mo (fun x k h => by unfold wF; omega)) ((b4.mo (fun x k h => by unfold wF; omega)).tr (g.mo (fun x k h => by unfold wF; omega))) (fun u => cE u _ ?_) (fun u => mE u _ ?_)
    · refine go_ald_5_0 rfl ?_
      refine go_ald_5_1 rfl ?_
      refine go_ald_5_2 rfl ?_
      refine go_call3 rfl (q1 u) (Nat.le_of_ble_eq_true rfl) (qb_qv rfl (by decide) (by decide)) ?_
      exact fin_i rfl rfl rfl
    · have h286 : qe (d' + 6) 286 [.ref 192, .int (nI 18)] (qb_hp (qj u B1), 149, c) = some (some (.int (0)), (qb_hp (qj u (fM B' f (tx_p n l b (tx_e n l b p)))), 149, c)) := by
        refine (en_286 (d' + 5) 192 (nI 18) _).trans ?_
        refine go_ild_2_1 rfl ?_
        refine go_c rfl ?_
        refine go_icne rfl (fun e => ?_) (fun e => ?_)
        · exact absurd e (by decide)
        · refine go_ald_2_0 rfl ?_
          refine go_c rfl ?_
          refine go_ald_2_0 rfl ?_
          refine go_getr rfl ⟨_, rfl, rfl, by decide, by decide⟩ ?_
          refine go_c rfl ?_
          refine go_iald (j := 2) rfl ⟨rfl, by decide, by decide, by decide⟩ rfl (by decide) ?_
          rw [n2]
          refine go_call3 rfl (q2 u) (Nat.le_of_ble_eq_true rfl) (qb_qv rfl (by decide) (by decide)) ?_
          exact fin_i rfl rfl rfl
      have h285 : qe (d' + 7) 285 [.ref 192, .int (nI 18)] (qb_hp (qj u B1), 149, c) = some (some (.int (0)), (qb_hp (qj u (fM B' f (tx_p n l b (tx_e n l b p)))), 149, c)) := by
        refine (en_285 (d' + 6) 192 (nI 18) _).trans ?_
        refine go_ald_2_0 rfl ?_
        refine go_ild_2_1 rfl ?_
        refine go_call2 rfl (h286) (Nat.le_of_ble_eq_true rfl) (qb_qv rfl (by decide) (by decide)) ?_
        refine go_ifne rfl (fun e => ?_) (fun e => ?_)
        · refine go_c rfl ?_
          exact fin_i rfl rfl rfl
        · exact absurd rfl e
      refine go_ald_4_0 rfl ?_
      refine go_ild_4_2 rfl ?_
      refine go_call2 rfl (h285) (Nat.le_of_ble_eq_true rfl) (qb_qv rfl (by decide) (by decide)) ?_
      refine go_goto rfl ?_
      refine go_ist_4_3 rfl rfl ?_
      exact pm_tail _ c _ u _ _ (Or.inl rfl)
