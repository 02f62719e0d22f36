/-! a sentence: a one with a number -/
theorem one_on (d d' : Nat) (c : Nat × Nat) {M : qb_M} {n l : Nat} {b : Nat → Nat} {p : Nat} (hC : rC M n l b p) (hM : rM M n l b p) {a o W ns : Nat} (hS : wS M a o W) (ho : o < 20) (hW : W < 8) (ha : a < 40) (hA : wA n l b p 19) : oneS (d + 6) (d' + 7) c n l b p ns M a o W := by
  have hx : wX n l b p := Or.inr ⟨19, by omega, by omega, hA⟩
  have hk2 := hA.1
  have hwd : M.2.2 65 10 = some 19 := pc_word hC hA
  obtain ⟨A1, a1, a2, a3, a4⟩ := pc_one (d + 2) c hC hS hx ho hW
  obtain ⟨B1, b1, b2, b3, b4, b5⟩ := pm_one (d' + 3) c hM hS hx ho hW
  have e1 := tx_e_lt hC.1 (by omega) (by omega : tx_k n l b p ≠ 1)
  have cE : ∀ u R, qa_lm (qe (d + 5)) (qa_cd qc_143) (147, [.ref 150, .ref 65, .ref 67, .int (nI (W + 1)), .ref 19], [], (qb_hp (qj A1 u), 149, c)) = R → qe (d + 6) 143 [.ref 150, .ref 65, .ref 67, .int (nI (W + 1))] (qb_hp (qj M u), 149, c) = R := fun u R hR => a4 u _ (by
    rw [hwd]
    refine go_ald_5_4 rfl ?_
    refine go_ifnonnull_r rfl ?_
    refine go_ald_5_4 rfl ?_
    refine go_c rfl ?_
    refine go_acne (r := some 19) (q := some 15) rfl rfl rfl (fun e => absurd (Option.some.inj e) (by omega)) (fun e => ?_)
    refine go_ald_5_4 rfl ?_
    refine go_c rfl ?_
    refine go_acne (r := some 19) (q := some 18) rfl rfl rfl (fun e => absurd (Option.some.inj e) (by omega)) (fun e => ?_)
    refine go_ald_5_4 rfl ?_
    refine go_c rfl ?_
    refine go_acne (r := some 19) (q := some 19) rfl rfl rfl (fun _ => ?_) (fun e => absurd rfl e)
    exact hR)
  have mE : ∀ u R, qa_lm (qe (d' + 6)) (qa_cd qc_281) (152, [.ref 192, .int 0, .int (nI 19), .int 1], [], (qb_hp (qj u B1), 149, c)) = R → qe (d' + 7) 281 [.ref 192] (qb_hp (qj u M), 149, c) = R := fun u R hR => by
    obtain ⟨y', hy', hgo⟩ := b5 u
    have hyy := pm_this (by omega) hA hy'
    subst hyy
    refine hgo _ ?_
    rw [qB_f (by omega)]
    refine go_ild_4_1 rfl ?_
    refine go_ifeq rfl (fun e2 => ?_) (fun e2 => ?_)
    · refine go_ild_4_2 rfl ?_
      refine go_c rfl ?_
      refine go_icne rfl (fun e3 => ?_) (fun e3 => ?_)
      · exact absurd e3 (by decide)
      · refine go_ild_4_2 rfl ?_
        refine go_c rfl ?_
        refine go_icge rfl (fun e4 => ?_) (fun e4 => ?_)
        · refine go_ild_4_2 rfl ?_
          refine go_c rfl ?_
          refine go_icge rfl (fun e5 => ?_) (fun e5 => ?_)
          · exact absurd e5 (by decide)
          · exact hR
        · exact absurd (by decide) e4
    · exact absurd rfl e2
  rcases sn_value d d' (d' + 4) c a1 b1 (ns := ns) (w := 19) (sg := 0) (x1 := 69) (x4 := 0) (X2 := fun y => nI y) (X3 := fun _ => 0) (hiN := 7) ha ((a3.i (by omega)).trans hS.1.1) ((b4.i (by omega)).trans hS.1.2) (by decide) (by decide) (fun y hy => Or.inr (Or.inr (Or.inl ⟨y, rfl, rfl, by omega, rfl, rfl⟩))) with ⟨k2, v, A', B2, B', q1, q2, q3, q4, q5⟩ | ⟨f, q1, q2⟩
  · have h43 : (qb_ui B' 192 44 (nI a)).1 192 43 = nI (W + 1) := (q5.2.2.2.2.2.2.2.i (by omega)).trans b3
    refine one_good (d + 6) (d' + 7) c ho ha a2 a3 b2 b4 q5 (Nat.lt_trans e1 (tx_e_lt a1.1 (by omega) (by omega))) (fun u => cE u _ ?_) (fun u => mE u _ ?_)
    · refine go_ald_5_0 rfl ?_
      refine go_ald_5_1 rfl ?_
      refine go_ald_5_4 rfl ?_
      refine go_c rfl ?_
      refine go_c rfl ?_
      refine go_call5 rfl (q1 u) (Nat.le_of_ble_eq_true rfl) (qb_qv rfl (by decide) (by decide)) ?_
      exact fin_i rfl rfl rfl
    · have h286 : qe (d' + 5) 286 [.ref 192, .int (nI 19)] (qb_hp (qj u B1), 149, c) = some (some (.int (1)), (qb_hp (qj u B2), 149, c)) := by
        refine (en_286 (d' + 4) 192 (nI 19) _).trans ?_
        refine go_ild_2_1 rfl ?_
        refine go_c rfl ?_
        refine go_icne rfl (fun e => ?_) (fun e => ?_)
        · refine go_ald_2_0 rfl ?_
          refine go_c rfl ?_
          refine go_c rfl ?_
          refine go_call3 rfl (q2 u) (Nat.le_of_ble_eq_true rfl) (qb_qv rfl (by decide) (by decide)) ?_
          refine go_goto rfl ?_
          exact fin_i rfl rfl rfl
        · exact absurd rfl e
      have h285 : qe (d' + 6) 285 [.ref 192, .int (nI 19)] (qb_hp (qj u B1), 149, c) = some (some (.int (1)), (qb_hp (qj u (qb_ui B' 192 44 (nI a))), 149, c)) := by
        refine (en_285 (d' + 5) 192 (nI 19) _).trans ?_
        refine go_ald_2_0 rfl ?_
        refine go_ild_2_1 rfl ?_
        refine go_call2 rfl (h286) (Nat.le_of_ble_eq_true rfl) (qb_qv rfl (by decide) (by decide)) ?_
        refine go_ifne rfl (fun e => ?_) (fun e => ?_)
        · exact absurd e (by decide)
        · refine go_ald_2_0 rfl ?_
          refine go_ald_2_0 rfl ?_
          refine go_c rfl ?_
          refine go_ild_2_1 rfl ?_
          refine go_iadd rfl ?_
          refine go_ald_2_0 rfl ?_
          refine go_geti rfl ⟨_, rfl, rfl, by decide, by decide⟩ ?_
          rw [show (qj u B2).1 192 13 = nI v from q3]
          refine go_c rfl ?_
          refine go_c rfl ?_
          refine go_call5 rfl (q4 u) (Nat.le_of_ble_eq_true rfl) (qb_qv rfl (by decide) (by decide)) ?_
          refine go_puti rfl ⟨_, rfl, rfl, by decide, by decide⟩ rfl rfl ?_
          rw [qj_UI (by decide)]
          refine go_c rfl ?_
          exact fin_i rfl rfl rfl
      refine go_ald_4_0 rfl ?_
      refine go_ild_4_2 rfl ?_
      refine go_call2 rfl (h285) (Nat.le_of_ble_eq_true rfl) (qb_qv rfl (by decide) (by decide)) ?_
      refine go_goto rfl ?_
      refine go_ist_4_3 rfl rfl ?_
      exact pm_tailW _ c _ u _ _ h43
  · refine one_bad (d + 6) (d' + 7) c (A := A1) (B := B1) (f := f) (pl := tx_p n l b (tx_e n l b p)) (v := (fM B1 f (tx_p n l b (tx_e n l b p))).1 192 43 - 1) (tx_p9 a1) (a3.mo (fun x k h => by unfold wF; omega)) (b4.mo (fun x k h => by unfold wF; omega)) (fun u => cE u _ ?_) (fun u => mE u _ ?_)
    · refine go_ald_5_0 rfl ?_
      refine go_ald_5_1 rfl ?_
      refine go_ald_5_4 rfl ?_
      refine go_c rfl ?_
      refine go_c rfl ?_
      refine go_call5 rfl (q1 u) (Nat.le_of_ble_eq_true rfl) (qb_qv rfl (by decide) (by decide)) ?_
      exact fin_i rfl rfl rfl
    · have h286 : qe (d' + 5) 286 [.ref 192, .int (nI 19)] (qb_hp (qj u B1), 149, c) = some (some (.int (0)), (qb_hp (qj u (fM B1 f (tx_p n l b (tx_e n l b p)))), 149, c)) := by
        refine (en_286 (d' + 4) 192 (nI 19) _).trans ?_
        refine go_ild_2_1 rfl ?_
        refine go_c rfl ?_
        refine go_icne rfl (fun e => ?_) (fun e => ?_)
        · refine go_ald_2_0 rfl ?_
          refine go_c rfl ?_
          refine go_c rfl ?_
          refine go_call3 rfl (q2 u) (Nat.le_of_ble_eq_true rfl) (qb_qv rfl (by decide) (by decide)) ?_
          refine go_goto rfl ?_
          exact fin_i rfl rfl rfl
        · exact absurd rfl e
      have h285 : qe (d' + 6) 285 [.ref 192, .int (nI 19)] (qb_hp (qj u B1), 149, c) = some (some (.int (0)), (qb_hp (qj u (fM B1 f (tx_p n l b (tx_e n l b p)))), 149, c)) := by
        refine (en_285 (d' + 5) 192 (nI 19) _).trans ?_
        refine go_ald_2_0 rfl ?_
        refine go_ild_2_1 rfl ?_
        refine go_call2 rfl (h286) (Nat.le_of_ble_eq_true rfl) (qb_qv rfl (by decide) (by decide)) ?_
        refine go_ifne rfl (fun e => ?_) (fun e => ?_)
        · refine go_c rfl ?_
          exact fin_i rfl rfl rfl
        · exact absurd rfl e
      refine go_ald_4_0 rfl ?_
      refine go_ild_4_2 rfl ?_
      refine go_call2 rfl (h285) (Nat.le_of_ble_eq_true rfl) (qb_qv rfl (by decide) (by decide)) ?_
      refine go_goto rfl ?_
      refine go_ist_4_3 rfl rfl ?_
      exact pm_tail _ c _ u _ _ (Or.inl rfl)
theorem one_count (d d' : Nat) (c : Nat × Nat) {M : qb_M} {n l : Nat} {b : Nat → Nat} {p : Nat} (hC : rC M n l b p) (hM : rM M n l b p) {a o W ns y : Nat} (hS : wS M a o W) (ho : o < 20) (hW : W < 8) (ha : a < 40) (hy : y = 20 ∨ y = 21 ∨ y = 22) (hA : wA n l b p y) : oneS (d + 7) (d' + 6) c n l b p ns M a o W := by
  have hx : wX n l b p := Or.inr ⟨y, by omega, by omega, hA⟩
  have hk2 := hA.1
  have hwd : M.2.2 65 10 = some y := by
    rw [pc_word hC hA]
    rcases hy with h | h | h <;> subst h <;> rfl
  obtain ⟨A1, a1, a2, a3, a4⟩ := pc_one (d + 3) c hC hS hx ho hW
  obtain ⟨B1, b1, b2, b3, b4, b5⟩ := pm_one (d' + 2) c hM hS hx ho hW
  have e1 := tx_e_lt hC.1 (by omega) (by omega : tx_k n l b p ≠ 1)
  have hid : qa_id (.ref y) = some (some y) := if_pos (show y < 23 by omega)
  have hk9 := tx_k9 (n := n) (l := l) (b := b) (p := tx_e n l b p)
  have cE : ∀ u R, qa_lm (qe (d + 6)) (qa_cd qc_143) (166, [.ref 150, .ref 65, .ref 67, .int (nI (W + 1)), .ref y], [], (qb_hp (qj A1 u), 149, c)) = R → qe (d + 7) 143 [.ref 150, .ref 65, .ref 67, .int (nI (W + 1))] (qb_hp (qj M u), 149, c) = R := fun u R hR => a4 u _ (by
    have hcn := sp_isCount (d + 5) (qj A1 u) c y (by omega)
    rw [qB_t hy] at hcn
    rw [hwd]
    refine go_ald_5_4 rfl ?_
    refine go_ifnonnull_r rfl ?_
    refine go_ald_5_4 rfl ?_
    refine go_c rfl ?_
    refine go_acne (r := some y) (q := some 15) rfl hid rfl (fun e => absurd (Option.some.inj e) (by omega)) (fun e => ?_)
    refine go_ald_5_4 rfl ?_
    refine go_c rfl ?_
    refine go_acne (r := some y) (q := some 18) rfl hid rfl (fun e => absurd (Option.some.inj e) (by omega)) (fun e => ?_)
    refine go_ald_5_4 rfl ?_
    refine go_c rfl ?_
    refine go_acne (r := some y) (q := some 19) rfl hid rfl (fun e => absurd (Option.some.inj e) (by omega)) (fun e => ?_)
    refine go_ald_5_4 rfl ?_
    refine go_call1 rfl (hcn) (Nat.le_of_ble_eq_true rfl) rfl ?_
    refine go_ifeq rfl (fun e2 => ?_) (fun e2 => ?_)
    · exact absurd e2 (by decide)
    · exact hR)
  have mE : ∀ u R, qa_lm (qe (d' + 5)) (qa_cd qc_281) (160, [.ref 192, .int 0, .int (nI y), .int 1], [], (qb_hp (qj u B1), 149, c)) = R → qe (d' + 6) 281 [.ref 192] (qb_hp (qj u M), 149, c) = R := fun u R hR => by
    obtain ⟨y', hy', hgo⟩ := b5 u
    have hyy := pm_this (by omega) hA hy'
    subst hyy
    refine hgo _ ?_
    rw [qB_f (by omega)]
    refine go_ild_4_1 rfl ?_
    refine go_ifeq rfl (fun e2 => ?_) (fun e2 => ?_)
    · refine go_ild_4_2 rfl ?_
      refine go_c rfl ?_
      refine go_icne rfl (fun e3 => ?_) (fun e3 => ?_)
      · exact absurd ((nI_eq (b := 14) (by omega) (by decide)).mp e3) (by omega)
      · refine go_ild_4_2 rfl ?_
        refine go_c rfl ?_
        refine go_icge rfl (fun e4 => ?_) (fun e4 => ?_)
        · refine go_ild_4_2 rfl ?_
          refine go_c rfl ?_
          refine go_icge rfl (fun e5 => ?_) (fun e5 => ?_)
          · exact hR
          · exact absurd (by rw [show (20 : Int32) = nI 20 from rfl]; exact (nI_leI (by omega) (by omega)).mpr (by omega)) e5
        · exact absurd (by rw [show (18 : Int32) = nI 18 from rfl]; exact (nI_leI (by omega) (by omega)).mpr (by omega)) e4
    · exact absurd rfl e2
  have h7 : ∀ u, (qj A1 u).1 65 7 = nI (tx_k n l b (tx_e n l b p)) := fun u => a1.2.2.2.2.1
  have s60 := fun u => pm_isSign (d' + 3) c b1 60 (by decide) u
  have s61 := fun u => pm_isSign (d' + 3) c b1 61 (by decide) u
  have s62 := fun u => pm_isSign (d' + 3) c b1 62 (by decide) u
  by_cases hs : tx_k n l b (tx_e n l b p) = 60 ∨ tx_k n l b (tx_e n l b p) = 61 ∨ tx_k n l b (tx_e n l b p) = 62
  · obtain ⟨A2, c1, c2, c3⟩ := pc_step (d + 2) c a1
    obtain ⟨B2, m1, m2, m3⟩ := pm_go (d' + 1) c b1
    have e2 := tx_e_lt a1.1 (by omega) (by omega : tx_k n l b (tx_e n l b p) ≠ 1)
    have cF : ∀ u R, qa_lm (qe (d + 5)) (qa_cd qc_150) (33, [.ref 150, .ref 65, .ref y, .int (nI (tx_k n l b (tx_e n l b p)))], [], (qb_hp (qj A2 u), 149, c)) = R → qe (d + 6) 150 [.ref 150, .ref 65, .ref y] (qb_hp (qj A1 u), 149, c) = R := fun u R hR => by
      have go : qa_lm (qe (d + 5)) (qa_cd qc_150) (29, [.ref 150, .ref 65, .ref y, .int (nI (tx_k n l b (tx_e n l b p)))], [], (qb_hp (qj A1 u), 149, c)) = R := by
        refine go_ald_4_1 rfl ?_
        refine go_call1 rfl (c1 u) (Nat.le_of_ble_eq_true rfl) (qb_qv rfl (by decide) (by decide)) ?_
        exact hR
      refine (en_150 (d + 5) 150 65 y _).trans ?_
      refine go_ald_4_1 rfl ?_
      refine go_geti rfl ⟨_, rfl, rfl, by decide, by decide⟩ ?_
      rw [h7]
      refine go_ist_4_3 rfl rfl ?_
      refine go_ild_4_3 rfl ?_
      refine go_c rfl ?_
      refine go_iceq rfl (fun e => ?_) (fun e => ?_)
      · exact go
      · refine go_ild_4_3 rfl ?_
        refine go_c rfl ?_
        refine go_iceq rfl (fun e3 => ?_) (fun e3 => ?_)
        · exact go
        · refine go_ild_4_3 rfl ?_
          refine go_c rfl ?_
          refine go_iceq rfl (fun e4 => ?_) (fun e4 => ?_)
          · exact go
          · exact absurd hs (fun z => z.elim (fun z => e (by rw [z]; rfl)) (fun z => z.elim (fun z => e3 (by rw [z]; rfl)) (fun z => e4 (by rw [z]; rfl))))
    have mF : ∀ u R, qa_lm (qe (d' + 4)) (qa_cd qc_287) (42, [.ref 192, .int (nI y), .int (nI (tx_k n l b (tx_e n l b p)))], [], (qb_hp (qj u B2), 149, c)) = R → qe (d' + 5) 287 [.ref 192, .int (nI y)] (qb_hp (qj u B1), 149, c) = R := fun u R hR => by
      have go : ∀ l2 : Value, qa_lm (qe (d' + 4)) (qa_cd qc_287) (33, [.ref 192, .int (nI y), l2], [], (qb_hp (qj u B1), 149, c)) = R := fun l2 => by
        refine go_ald_3_0 rfl ?_
        refine go_geti rfl ⟨_, rfl, rfl, by decide, by decide⟩ ?_
        rw [show (qj u B1).1 192 9 = nI (tx_k n l b (tx_e n l b p)) from b1.2.2.2.2.2.1 (by omega)]
        refine go_ist_3_2 rfl rfl ?_
        refine go_ald_3_0 rfl ?_
        refine go_call1 rfl (m1 u) (Nat.le_of_ble_eq_true rfl) (qb_qv rfl (by decide) (by decide)) ?_
        exact hR
      refine (en_287 (d' + 4) 192 (nI y) _).trans ?_
      refine go_ald_3_0 rfl ?_
      refine go_c rfl ?_
      refine go_call2 rfl (s60 u) (Nat.le_of_ble_eq_true rfl) (qb_qv rfl (by decide) (by decide)) ?_
      refine go_ifne rfl (fun e => ?_) (fun e => ?_)
      · refine go_ald_3_0 rfl ?_
        refine go_c rfl ?_
        refine go_call2 rfl (s61 u) (Nat.le_of_ble_eq_true rfl) (qb_qv rfl (by decide) (by decide)) ?_
        refine go_ifne rfl (fun e3 => ?_) (fun e3 => ?_)
        · refine go_ald_3_0 rfl ?_
          refine go_c rfl ?_
          refine go_call2 rfl (s62 u) (Nat.le_of_ble_eq_true rfl) (qb_qv rfl (by decide) (by decide)) ?_
          refine go_ifne rfl (fun e4 => ?_) (fun e4 => ?_)
          · exact absurd hs (fun z => z.elim (qB_0.mp e) (fun z => z.elim (qB_0.mp e3) (qB_0.mp e4)))
          · exact go _
        · exact go _
      · exact go _
    have hsg : nI (tx_k n l b (tx_e n l b p)) = 60 ∨ nI (tx_k n l b (tx_e n l b p)) = 61 ∨ nI (tx_k n l b (tx_e n l b p)) = 62 := by
      rcases hs with z | z | z <;> rw [z]
      · exact Or.inl rfl
      · exact Or.inr (Or.inl rfl)
      · exact Or.inr (Or.inr rfl)
    rcases sn_value d d' (d' + 3) c c2 m2 (ns := ns) (w := y) (sg := nI (tx_k n l b (tx_e n l b p))) (x1 := nI (50 + y)) (x4 := nI (tx_k n l b (tx_e n l b p))) (X2 := fun _ => 0) (X3 := fun v => nI v) (hiN := 999) ha ((c3.i (by omega)).trans ((a3.i (by omega)).trans hS.1.1)) ((m3.i (by omega)).trans ((b4.i (by omega)).trans hS.1.2)) (by decide) (by omega) (fun v hv => Or.inr (Or.inr (Or.inr ⟨v, hy, rfl, by omega, rfl, rfl, rfl, hsg⟩))) with ⟨k2, v, A', B3, B', q1, q2, q3, q4, q5⟩ | ⟨f, q1, q2⟩
    · obtain ⟨w1, w2, w3, w4, w5, w6, w7, w8⟩ := q5
      have hw : wC A1 B1 A' (qb_ui B' 192 44 (nI a)) a ns n l b (tx_e n l b (tx_e n l b (tx_e n l b p))) := ⟨w1, w2, w3, w4, w5, w6, (c3.mo (fun x k h => by omega)).tr w7, (m3.mo (fun x k h => by omega)).tr w8⟩
      have h43 : (qb_ui B' 192 44 (nI a)).1 192 43 = nI (W + 1) := (hw.2.2.2.2.2.2.2.i (by omega)).trans b3
      have e3 := tx_e_lt c2.1 (by omega) (by omega : tx_k n l b (tx_e n l b (tx_e n l b p)) ≠ 1)
      refine one_good (d + 7) (d' + 6) c ho ha a2 a3 b2 b4 hw (by omega) (fun u => cE u _ ?_) (fun u => mE u _ ?_)
      · have h150 : qe (d + 6) 150 [.ref 150, .ref 65, .ref y] (qb_hp (qj A1 u), 149, c) = some (some (.int (1)), (qb_hp (qj A' u), 149, c)) := cF u _ (by
          refine go_ald_4_0 rfl ?_
          refine go_ald_4_1 rfl ?_
          refine go_ald_4_2 rfl ?_
          refine go_ild_4_3 rfl ?_
          refine go_c rfl ?_
          refine go_call5 rfl (q1 u) (Nat.le_of_ble_eq_true rfl) (qb_qv rfl (by decide) (by decide)) ?_
          exact fin_i rfl rfl rfl)
        refine go_ald_5_0 rfl ?_
        refine go_ald_5_1 rfl ?_
        refine go_ald_5_4 rfl ?_
        refine go_call3 rfl (h150) (Nat.le_of_ble_eq_true rfl) (qb_qv rfl (by decide) (by decide)) ?_
        refine go_goto rfl ?_
        exact fin_i rfl rfl rfl
      · have h287 : qe (d' + 5) 287 [.ref 192, .int (nI y)] (qb_hp (qj u B1), 149, c) = some (some (.int (1)), (qb_hp (qj u (qb_ui B' 192 44 (nI a))), 149, c)) := mF u _ (by
          refine go_ald_3_0 rfl ?_
          refine go_c rfl ?_
          refine go_c rfl ?_
          refine go_call3 rfl (q2 u) (Nat.le_of_ble_eq_true rfl) (qb_qv rfl (by decide) (by decide)) ?_
          refine go_ifne rfl (fun e => ?_) (fun e => ?_)
          · exact absurd e (by decide)
          · refine go_ald_3_0 rfl ?_
            refine go_ald_3_0 rfl ?_
            refine go_c rfl ?_
            refine go_ild_3_1 rfl ?_
            refine go_iadd rfl ?_
            rw [show (50 : Int32) = nI 50 from rfl, nI_add]
            refine go_c rfl ?_
            refine go_ald_3_0 rfl ?_
            refine go_geti rfl ⟨_, rfl, rfl, by decide, by decide⟩ ?_
            rw [show (qj u B3).1 192 13 = nI v from q3]
            refine go_ild_3_2 rfl ?_
            refine go_call5 rfl (q4 u) (Nat.le_of_ble_eq_true rfl) (qb_qv rfl (by decide) (by decide)) ?_
            refine go_puti rfl ⟨_, rfl, rfl, by decide, by decide⟩ rfl rfl ?_
            rw [qj_UI (by decide)]
            refine go_c rfl ?_
            exact fin_i rfl rfl rfl)
        refine go_ald_4_0 rfl ?_
        refine go_ild_4_2 rfl ?_
        refine go_call2 rfl (h287) (Nat.le_of_ble_eq_true rfl) (qb_qv rfl (by decide) (by decide)) ?_
        refine go_ist_4_3 rfl rfl ?_
        exact pm_tailW _ c _ u _ _ h43
    · refine one_bad (d + 7) (d' + 6) c (A := A2) (B := B2) (f := f) (pl := tx_p n l b (tx_e n l b (tx_e n l b p))) (v := (fM B2 f (tx_p n l b (tx_e n l b (tx_e n l b p)))).1 192 43 - 1) (tx_p9 c2) ((a3.mo (fun x k h => by unfold wF; omega)).tr (c3.mo (fun x k h => by unfold wF; omega))) ((b4.mo (fun x k h => by unfold wF; omega)).tr (m3.mo (fun x k h => by unfold wF; omega))) (fun u => cE u _ ?_) (fun u => mE u _ ?_)
      · have h150 : qe (d + 6) 150 [.ref 150, .ref 65, .ref y] (qb_hp (qj A1 u), 149, c) = some (some (.int (0)), (qb_hp (qj (fC A2 f (tx_p n l b (tx_e n l b (tx_e n l b p)))) u), 149, c)) := cF u _ (by
          refine go_ald_4_0 rfl ?_
          refine go_ald_4_1 rfl ?_
          refine go_ald_4_2 rfl ?_
          refine go_ild_4_3 rfl ?_
          refine go_c rfl ?_
          refine go_call5 rfl (q1 u) (Nat.le_of_ble_eq_true rfl) (qb_qv rfl (by decide) (by decide)) ?_
          exact fin_i rfl rfl rfl)
        refine go_ald_5_0 rfl ?_
        refine go_ald_5_1 rfl ?_
        refine go_ald_5_4 rfl ?_
        refine go_call3 rfl (h150) (Nat.le_of_ble_eq_true rfl) (qb_qv rfl (by decide) (by decide)) ?_
        refine go_goto rfl ?_
        exact fin_i rfl rfl rfl
      · have h287 : qe (d' + 5) 287 [.ref 192, .int (nI y)] (qb_hp (qj u B1), 149, c) = some (some (.int (0)), (qb_hp (qj u (fM B2 f (tx_p n l b (tx_e n l b (tx_e n l b p))))), 149, c)) := mF u _ (by
          refine go_ald_3_0 rfl ?_
          refine go_c rfl ?_
          refine go_c rfl ?_
          refine go_call3 rfl (q2 u) (Nat.le_of_ble_eq_true rfl) (qb_qv rfl (by decide) (by decide)) ?_
          refine go_ifne rfl (fun e => ?_) (fun e => ?_)
          · refine go_c rfl ?_
            exact fin_i rfl rfl rfl
          · exact absurd rfl e)
        refine go_ald_4_0 rfl ?_
        refine go_ild_4_2 rfl ?_
        refine go_call2 rfl (h287) (Nat.le_of_ble_eq_true rfl) (qb_qv rfl (by decide) (by decide)) ?_
        refine go_ist_4_3 rfl rfl ?_
        exact pm_tail _ c _ u _ _ (Or.inl rfl)
  · have h60 : tx_k n l b (tx_e n l b p) ≠ 60 := fun z => hs (Or.inl z)
    have h61 : tx_k n l b (tx_e n l b p) ≠ 61 := fun z => hs (Or.inr (Or.inl z))
    have h62 : tx_k n l b (tx_e n l b p) ≠ 62 := fun z => hs (Or.inr (Or.inr z))
    refine one_bad (d + 7) (d' + 6) c (A := A1) (B := B1) (f := 1) (pl := tx_p n l b (tx_e n l b p)) (v := (fM B1 1 (tx_p n l b (tx_e n l b p))).1 192 43 - 1) (tx_p9 a1) (a3.mo (fun x k h => by unfold wF; omega)) (b4.mo (fun x k h => by unfold wF; omega)) (fun u => cE u _ ?_) (fun u => mE u _ ?_)
    · have h150 : qe (d + 6) 150 [.ref 150, .ref 65, .ref y] (qb_hp (qj A1 u), 149, c) = some (some (.int (0)), (qb_hp (qj (fC A1 1 (tx_p n l b (tx_e n l b p))) u), 149, c)) := by
        refine (en_150 (d + 5) 150 65 y _).trans ?_
        refine go_ald_4_1 rfl ?_
        refine go_geti rfl ⟨_, rfl, rfl, by decide, by decide⟩ ?_
        rw [h7]
        refine go_ist_4_3 rfl rfl ?_
        refine go_ild_4_3 rfl ?_
        refine go_c rfl ?_
        refine go_iceq rfl (fun e => ?_) (fun e => ?_)
        · exact absurd ((nI_eq (b := 60) hk9 (by decide)).mp e) h60
        · refine go_ild_4_3 rfl ?_
          refine go_c rfl ?_
          refine go_iceq rfl (fun e3 => ?_) (fun e3 => ?_)
          · exact absurd ((nI_eq (b := 61) hk9 (by decide)).mp e3) h61
          · refine go_ild_4_3 rfl ?_
            refine go_c rfl ?_
            refine go_iceq rfl (fun e4 => ?_) (fun e4 => ?_)
            · exact absurd ((nI_eq (b := 62) hk9 (by decide)).mp e4) h62
            · refine go_ald_4_1 rfl ?_
              refine go_c rfl ?_
              refine go_call2 rfl (pc_fail (d + 4) c a1 1 u) (Nat.le_of_ble_eq_true rfl) (qb_qv rfl (by decide) (by decide)) ?_
              exact fin_i rfl rfl rfl
      refine go_ald_5_0 rfl ?_
      refine go_ald_5_1 rfl ?_
      refine go_ald_5_4 rfl ?_
      refine go_call3 rfl (h150) (Nat.le_of_ble_eq_true rfl) (qb_qv rfl (by decide) (by decide)) ?_
      refine go_goto rfl ?_
      exact fin_i rfl rfl rfl
    · have hb := pm_bad (d' + 3) c b1 1 u
      rw [ite_self] at hb
      have h287 : qe (d' + 5) 287 [.ref 192, .int (nI y)] (qb_hp (qj u B1), 149, c) = some (some (.int (0)), (qb_hp (qj u (fM B1 1 (tx_p n l b (tx_e n l b p)))), 149, c)) := by
        refine (en_287 (d' + 4) 192 (nI y) _).trans ?_
        refine go_ald_3_0 rfl ?_
        refine go_c rfl ?_
        refine go_call2 rfl (s60 u) (Nat.le_of_ble_eq_true rfl) (qb_qv rfl (by decide) (by decide)) ?_
        refine go_ifne rfl (fun e => ?_) (fun e => ?_)
        · refine go_ald_3_0 rfl ?_
          refine go_c rfl ?_
          refine go_call2 rfl (s61 u) (Nat.le_of_ble_eq_true rfl) (qb_qv rfl (by decide) (by decide)) ?_
          refine go_ifne rfl (fun e3 => ?_) (fun e3 => ?_)
          · refine go_ald_3_0 rfl ?_
            refine go_c rfl ?_
            refine go_call2 rfl (s62 u) (Nat.le_of_ble_eq_true rfl) (qb_qv rfl (by decide) (by decide)) ?_
            refine go_ifne rfl (fun e4 => ?_) (fun e4 => ?_)
            · refine go_ald_3_0 rfl ?_
              refine go_c rfl ?_
              refine go_call2 rfl (hb) (Nat.le_of_ble_eq_true rfl) (qb_qv rfl (by decide) (by decide)) ?_
              exact fin_i rfl rfl rfl
            · exact absurd (qB_f h62) e4
          · exact absurd (qB_f h61) e3
        · exact absurd (qB_f h60) e
      refine go_ald_4_0 rfl ?_
      refine go_ild_4_2 rfl ?_
      refine go_call2 rfl (h287) (Nat.le_of_ble_eq_true rfl) (qb_qv rfl (by decide) (by decide)) ?_
      refine go_ist_4_3 rfl rfl ?_
      exact pm_tail _ c _ u _ _ (Or.inl rfl)
