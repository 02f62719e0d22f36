/-! a sentence: a one that holds others -/
def allS (d d' : Nat) (c : Nat × Nat) (n l : Nat) (b : Nat → Nat) (p ns : Nat) (M : qb_M) (a o W : Nat) : Prop := ∃ M' r, (∀ u, qe (d) 142 [.ref 150, .ref 65, .ref 67, .int (nI (W + 1))] (qb_hp (qj M u), 149, c) = some (some (.int (r)), (qb_hp (qj M' u), 149, c))) ∧ (∀ u, qe (d') 280 [.ref 192] (qb_hp (qj u M), 149, c) = some (some (.int (r)), (qb_hp (qj u M'), 149, c))) ∧ rO (wF a) wG n l b p M M' r (fun M' => wO M' a o W ns)
def anyS (d d' : Nat) (c : Nat × Nat) (n l : Nat) (b : Nat → Nat) (p ns : Nat) (M : qb_M) (a o W : Nat) : Prop := ∃ M' r, (∀ u, qe (d) 141 [.ref 150, .ref 65, .ref 67, .int (nI (W + 1))] (qb_hp (qj M u), 149, c) = some (some (.int (r)), (qb_hp (qj M' u), 149, c))) ∧ (∀ u, qe (d') 279 [.ref 192] (qb_hp (qj u M), 149, c) = some (some (.int (r)), (qb_hp (qj u M'), 149, c))) ∧ rO (wF a) wG n l b p M M' r (fun M' => wO M' a o W ns)
/-- what both have as a reader begins -/
def wI (n l : Nat) (b : Nat → Nat) (ns : Nat) (M : qb_M) (a o W p : Nat) : Prop := rC M n l b p ∧ rM M n l b p ∧ wS M a o W ∧ o ≤ 20 ∧ a ≤ 2 * o ∧ W ≤ 8 ∧ wN M M ns
theorem wN_mv {P : Nat → Nat → Prop} {M N : qb_M} {ns : Nat} (h : wN M M ns) (hf : qG P M N) (hd : ∀ x k, x = 67 ∨ x = 71 ∨ x = 194 ∨ x = 199 → ¬ P x k) : wN N N ns := ⟨(hf.i (hd _ _ (by omega))).trans h.1, (hf.i (hd _ _ (by omega))).trans h.2.1, h.2.2.1, fun k hk => by rw [hf.l (hd _ _ (by omega)), hf.l (hd _ _ (by omega))]; exact h.2.2.2 k hk⟩
theorem wF_no {a x k : Nat} (h : x = 67 ∨ x = 71 ∨ x = 194 ∨ x = 199) : ¬ wF a x k := by unfold wF; omega
theorem wF_G {x k : Nat} (h : x < 192 ∧ wF 0 x k ∨ ¬ x < 192 ∧ wF 0 x k) : wG x k := Or.inl (h.elim (fun z => z.2) (fun z => z.2))
/-- both have begun a one -/
theorem one_in {M A1 B1 : qb_M} {n l : Nat} {b : Nat → Nat} {p p1 ns a o W : Nat} (hI : wI n l b ns M a o W p) (ho : o < 20) (hW : W < 8) (a1 : rC A1 n l b p1) (a2 : A1.1 150 5 = nI (o + 1)) (a3 : qG (fun x k => x = 65 ∧ 5 ≤ k ∧ k ≤ 10 ∨ x = 150 ∧ k = 5) M A1) (b1 : rM B1 n l b p1) (b2 : B1.1 192 42 = nI (o + 1)) (b3 : B1.1 192 43 = nI (W + 1)) (b4 : qG (fun x k => x = 192 ∧ (5 ≤ k ∧ k ≤ 9 ∨ k = 12 ∨ k = 42 ∨ k = 43)) M B1) : wI n l b ns (qj A1 B1) a (o + 1) (W + 1) p1 ∧ qG (wF a) M (qj A1 B1) := by
  obtain ⟨i1, i2, i3, i4, i5, i6, i7⟩ := hI
  have g : qG (wF a) M (qj A1 B1) := (qj_G a3 b4).mo (fun x k h => by unfold wF; omega)
  refine ⟨⟨rC_j a1, rM_j b1, ⟨⟨?_, ?_⟩, ⟨?_, ?_⟩, ?_⟩, by omega, by omega, by omega, wN_mv i7 g (fun x k h => wF_no h)⟩, g⟩
  · exact (a3.i (by omega)).trans i3.1.1
  · exact (b4.i (by omega)).trans i3.1.2
  · exact a2
  · exact b2
  · exact b3
theorem one_not (d d' : Nat) (c : Nat × Nat) {M : qb_M} {n l : Nat} {b : Nat → Nat} {p ns a o W : Nat} (hI : wI n l b ns M a o W p) (ho : o < 20) (hW : W < 8) (hA : wA n l b p 14) (next : ∀ M1 p1, p < p1 → wI n l b ns M1 a (o + 1) (W + 1) p1 → oneS (d + 3) (d' + 4) c n l b p1 ns M1 a (o + 1) (W + 1)) : oneS (d + 4) (d' + 6) c n l b p ns M a o W := by
  obtain ⟨hC, hM, hS, _, ha2, _, hN⟩ := id hI
  have hx : wX n l b p := Or.inr ⟨14, by omega, by omega, hA⟩
  have hk2 := hA.1
  have hwd : M.2.2 65 10 = some 15 := pc_word hC hA
  obtain ⟨A1, a1, a2, a3, a4⟩ := pc_one d c hC hS hx ho hW
  obtain ⟨B1, b1, b2, b3, b4, b5⟩ := pm_one (d' + 2) c hM hS hx ho hW
  have e1 := tx_e_lt hC.1 (by omega) (by omega : tx_k n l b p ≠ 1)
  obtain ⟨i1, g1⟩ := one_in hI ho hW a1 a2 a3 b1 b2 b3 b4
  have cE : ∀ u R, qa_lm (qe (d + 3)) (qa_cd qc_143) (94, [.ref 150, .ref 65, .ref 67, .int (nI (W + 1)), .ref 15], [], (qb_hp (qj A1 u), 149, c)) = R → qe (d + 4) 143 [.ref 150, .ref 65, .ref 67, .int (nI (W + 1))] (qb_hp (qj M u), 149, c) = R := fun u R hR => a4 u _ (by
    rw [hwd]
    refine go_ald_5_4 rfl ?_
    refine go_ifnonnull_r rfl ?_
    refine go_ald_5_4 rfl ?_
    refine go_c rfl ?_
    refine go_acne (r := some 15) (q := some 15) rfl rfl rfl (fun _ => ?_) (fun e => absurd rfl e)
    exact hR)
  have mE : ∀ u R, qa_lm (qe (d' + 5)) (qa_cd qc_281) (114, [.ref 192, .int 0, .int (nI 14), .int 1], [], (qb_hp (qj u B1), 149, c)) = R → qe (d' + 6) 281 [.ref 192] (qb_hp (qj u M), 149, c) = R := fun u R hR => by
    obtain ⟨y', hy', hgo⟩ := b5 u
    have hyy := pm_this (by omega) hA hy'
    subst hyy
    refine hgo _ ?_
    rw [qB_f (by omega)]
    refine go_ild_4_1 rfl ?_
    refine go_ifeq rfl (fun e2 => ?_) (fun e2 => ?_)
    · refine go_ild_4_2 rfl ?_
      refine go_c rfl ?_
      refine go_icne rfl (fun e3 => ?_) (fun e3 => ?_)
      · exact hR
      · exact absurd rfl e3
    · exact absurd rfl e2
  obtain ⟨M2, r, o1, o2, o3⟩ := next (qj A1 B1) (tx_e n l b p) e1 i1
  have o1 : ∀ u, qe (d + 3) 143 [.ref 150, .ref 65, .ref 67, .int (nI (W + 1 + 1))] (qb_hp (qj A1 u), 149, c) = some (some (.int (r)), (qb_hp (qj M2 u), 149, c)) := fun u => by
    have := o1 u
    rw [qj_j] at this
    exact this
  have o2 : ∀ u, qe (d' + 4) 281 [.ref 192] (qb_hp (qj u B1), 149, c) = some (some (.int (r)), (qb_hp (qj u M2), 149, c)) := fun u => by
    have := o2 u
    rw [qj_J] at this
    exact this
  rcases o3 with ⟨hr, ⟨p', hp', hC1, hM1⟩, ⟨a', o', ⟨⟨s1, s2⟩, ⟨s3, s4⟩, s5⟩, w1, w2, w3, w4, w5⟩, gF⟩ | ⟨hr, hf, gF⟩
  · subst hr
    have hlt := wE_lt w5
    obtain ⟨A3, t1, t2, t3, t4, t5, t6⟩ := sn_add (d + 2) c (A := M2) (a := a') (w := 15) (by omega) (by decide) s1 0 0
    obtain ⟨B3, v1, ⟨v2, v3, v4, v5⟩, v6, v7⟩ := sn_says (d' + 3) c (B := M2) (a := a') (by omega) s2 1 (nI (a' - 1)) 0 0
    obtain ⟨B4, hB4⟩ : ∃ B4, B4 = qb_ui (qb_ui B3 192 44 (nI a')) 192 43 (nI W) := ⟨_, rfl⟩
    have gB : qG (fun x k => x = 211 ∧ 4 * a' ≤ k ∧ k ≤ 4 * a' + 3 ∨ x = 192 ∧ (k = 41 ∨ k = 44 ∨ k = 43)) M2 B4 := by rw [hB4]; exact ((v7.mo (fun x k h => by omega)).ui (by omega)).ui (by omega)
    have gA : qG (wF a) M A3 := (g1.tr gF).tr (t6.mo (fun x k h => by unfold wF; omega))
    have gBB : qG (wF a) M B4 := (g1.tr gF).tr (gB.mo (fun x k h => by unfold wF; omega))
    have h43 : (qb_ui B3 192 44 (nI a')).1 192 43 = nI (W + 1) := (qb_ui_1n (by omega)).trans ((v7.i (by omega)).trans s5)
    refine bo_good (A := A3) (B := B4) (p' := p') (P1 := wF a) (Q1 := wF a) (fun u => cE u _ ?_) (fun u => mE u _ ?_) (by omega) (hC1.mv t6 (fun x k h => by omega)) (hM1.mv gB (fun x k h => by omega)) ?_ gA gBB (fun x j h => h.elim (fun z => z.2) (fun z => z.2))
    · refine go_ald_5_0 rfl ?_
      refine go_ald_5_1 rfl ?_
      refine go_ald_5_2 rfl ?_
      refine go_ild_5_3 rfl ?_
      refine go_c rfl ?_
      refine go_iadd rfl ?_
      rw [nI_1]
      refine go_call4 rfl (o1 u) (Nat.le_of_ble_eq_true rfl) (qb_qv rfl (by decide) (by decide)) ?_
      refine go_ifeq rfl (fun e => ?_) (fun e => ?_)
      · exact absurd e (by decide)
      · refine go_ald_5_0 rfl ?_
        refine go_c rfl ?_
        refine go_c rfl ?_
        refine go_c rfl ?_
        refine go_call4 rfl (t1 u) (Nat.le_of_ble_eq_true rfl) (qb_qv rfl (by decide) (by decide)) ?_
        refine go_ifeq rfl (fun e2 => ?_) (fun e2 => ?_)
        · exact absurd e2 (by decide)
        · refine go_c rfl ?_
          refine go_goto rfl ?_
          exact fin_i rfl rfl rfl
    · have h283 : qe (d' + 5) 283 [.ref 192] (qb_hp (qj u B1), 149, c) = some (some (.int (1)), (qb_hp (qj u (qb_ui B3 192 44 (nI a'))), 149, c)) := by
        refine (en_283 (d' + 4) 192 _).trans ?_
        refine go_ald_1_0 rfl ?_
        refine go_call1 rfl (o2 u) (Nat.le_of_ble_eq_true rfl) (qb_qv rfl (by decide) (by decide)) ?_
        refine go_ifne rfl (fun e => ?_) (fun e => ?_)
        · exact absurd e (by decide)
        · refine go_ald_1_0 rfl ?_
          refine go_ald_1_0 rfl ?_
          refine go_c rfl ?_
          refine go_ald_1_0 rfl ?_
          refine go_geti rfl ⟨_, rfl, rfl, by decide, by decide⟩ ?_
          rw [show (qj u M2).1 192 44 = nI (a' - 1) from w4]
          refine go_c rfl ?_
          refine go_c rfl ?_
          refine go_call5 rfl (v1 u) (Nat.le_of_ble_eq_true rfl) (qb_qv rfl (by decide) (by decide)) ?_
          refine go_puti rfl ⟨_, rfl, rfl, by decide, by decide⟩ rfl rfl ?_
          rw [qj_UI (by decide)]
          refine go_c rfl ?_
          exact fin_i rfl rfl rfl
      rw [hB4]
      refine go_ald_4_0 rfl ?_
      refine go_call1 rfl (h283) (Nat.le_of_ble_eq_true rfl) (qb_qv rfl (by decide) (by decide)) ?_
      refine go_ist_4_3 rfl rfl ?_
      refine go_goto rfl ?_
      exact pm_tailW _ c _ u _ _ h43
    · refine ⟨a' + 1, o', ⟨⟨t5, ?_⟩, ⟨(t6.i (by omega)).trans s3, ?_⟩, ?_⟩, by omega, w2, by omega, ?_, ?_⟩
      · show B4.1 192 41 = _
        rw [hB4]
        exact (qb_ui_1n (by omega)).trans ((qb_ui_1n (by omega)).trans v6)
      · show B4.1 192 42 = _
        exact (gB.i (by omega)).trans s4
      · show B4.1 192 43 = _
        rw [hB4]
        exact qb_ui_1s
      · show B4.1 192 44 = _
        rw [hB4, Nat.add_sub_cancel]
        exact (qb_ui_1n (by omega)).trans qb_ui_1s
      · rw [show a' + 1 - a = (a' - a) + 1 by omega]
        refine ⟨by omega, by omega, Or.inr (Or.inl ⟨?_, ?_, ?_, ?_⟩)⟩
        · show B4.1 211 (4 * (a' + 1 - 1)) = 1
          rw [hB4, Nat.add_sub_cancel]
          exact (qb_ui_1n (by omega)).trans ((qb_ui_1n (by omega)).trans v2)
        · show B4.1 211 (4 * (a' + 1 - 1) + 1) = nI (a' + 1 - 1 - 1)
          rw [hB4, Nat.add_sub_cancel]
          exact (qb_ui_1n (by omega)).trans ((qb_ui_1n (by omega)).trans v3)
        · show A3.2.2 151 (a' + 1 - 1) = some 15
          rw [Nat.add_sub_cancel]
          exact t2
        · rw [Nat.add_sub_cancel]
          exact wE_mv (M := M2) (N := qj A3 B4) (a := a') (fun i hi => ⟨t6.p (by omega), t6.i (by omega), t6.i (by omega)⟩) (fun j hj => gB.i (by omega)) _ a a' (Nat.le_refl _) w5
  · subst hr
    obtain ⟨f, pl, f0, f1, f2, f3, f4⟩ := hf
    have gG : qG wG M M2 := (g1.mo (fun x k h => Or.inl (wF_mo (Nat.zero_le _) h))).tr gF
    refine ⟨qj M2 (qb_ui M2 192 43 (M2.1 192 43 - 1)), 0, fun u => cE u _ ?_, fun u => mE u _ ?_, Or.inr ⟨rfl, ⟨f, pl, f0, f1, f2, f3, f4⟩, (qj_G gG (gG.ui (v := M2.1 192 43 - 1) (x := 192) (k := 43) (Or.inl (by unfold wF; omega)))).mo (fun x k h => h.elim (fun z => z.2) (fun z => z.2))⟩⟩
    · rw [qj_j]
      refine go_ald_5_0 rfl ?_
      refine go_ald_5_1 rfl ?_
      refine go_ald_5_2 rfl ?_
      refine go_ild_5_3 rfl ?_
      refine go_c rfl ?_
      refine go_iadd rfl ?_
      rw [nI_1]
      refine go_call4 rfl (o1 u) (Nat.le_of_ble_eq_true rfl) (qb_qv rfl (by decide) (by decide)) ?_
      refine go_ifeq rfl (fun e => ?_) (fun e => ?_)
      · refine go_c rfl ?_
        exact fin_i rfl rfl rfl
      · exact absurd rfl e
    · have h283 : qe (d' + 5) 283 [.ref 192] (qb_hp (qj u B1), 149, c) = some (some (.int (0)), (qb_hp (qj u M2), 149, c)) := by
        refine (en_283 (d' + 4) 192 _).trans ?_
        refine go_ald_1_0 rfl ?_
        refine go_call1 rfl (o2 u) (Nat.le_of_ble_eq_true rfl) (qb_qv rfl (by decide) (by decide)) ?_
        refine go_ifne rfl (fun e => ?_) (fun e => ?_)
        · refine go_c rfl ?_
          exact fin_i rfl rfl rfl
        · exact absurd rfl e
      rw [qj_J]
      refine go_ald_4_0 rfl ?_
      refine go_call1 rfl (h283) (Nat.le_of_ble_eq_true rfl) (qb_qv rfl (by decide) (by decide)) ?_
      refine go_ist_4_3 rfl rfl ?_
      refine go_goto rfl ?_
      exact pm_tail _ c _ u _ _ (Or.inl rfl)
theorem one_bracket (d d' : Nat) (c : Nat × Nat) {M : qb_M} {n l : Nat} {b : Nat → Nat} {p ns a o W : Nat} (hI : wI n l b ns M a o W p) (ho : o < 20) (hW : W < 8) (hA : tx_k n l b p = 40) (next : ∀ M1 p1, p < p1 → wI n l b ns M1 a (o + 1) (W + 1) p1 → anyS (d + 4) (d' + 4) c n l b p1 ns M1 a (o + 1) (W + 1)) : oneS (d + 5) (d' + 6) c n l b p ns M a o W := by
  obtain ⟨hC, hM, hS, _, ha2, _, hN⟩ := id hI
  have hx : wX n l b p := Or.inl hA
  have hwd : M.2.2 65 10 = none := hC.2.2.2.2.2.2.1 (by omega)
  obtain ⟨A1, a1, a2, a3, a4⟩ := pc_one (d + 1) c hC hS hx ho hW
  obtain ⟨B1, b1, b2, b3, b4, b5⟩ := pm_one (d' + 2) c hM hS hx ho hW
  have e1 := tx_e_lt hC.1 (by omega) (by omega : tx_k n l b p ≠ 1)
  obtain ⟨i1, g1⟩ := one_in hI ho hW a1 a2 a3 b1 b2 b3 b4
  have cE : ∀ u R, qa_lm (qe (d + 4)) (qa_cd qc_143) (59, [.ref 150, .ref 65, .ref 67, .int (nI (W + 1)), .null], [], (qb_hp (qj A1 u), 149, c)) = R → qe (d + 5) 143 [.ref 150, .ref 65, .ref 67, .int (nI (W + 1))] (qb_hp (qj M u), 149, c) = R := fun u R hR => a4 u _ (by
    rw [hwd]
    refine go_aldN_5_4 rfl ?_
    refine go_ifnonnull_n rfl ?_
    exact hR)
  have mE : ∀ u R, (∀ y : Nat, qa_lm (qe (d' + 5)) (qa_cd qc_281) (100, [.ref 192, .int 1, .int (nI y), .int 1], [], (qb_hp (qj u B1), 149, c)) = R) → qe (d' + 6) 281 [.ref 192] (qb_hp (qj u M), 149, c) = R := fun u R hR => by
    obtain ⟨y', hy', hgo⟩ := b5 u
    refine hgo _ ?_
    rw [qB_t hA]
    refine go_ild_4_1 rfl ?_
    refine go_ifeq rfl (fun e2 => ?_) (fun e2 => ?_)
    · exact absurd e2 (by decide)
    · exact hR _
  obtain ⟨M2, r, o1, o2, o3⟩ := next (qj A1 B1) (tx_e n l b p) e1 i1
  have o1 : ∀ u, qe (d + 4) 141 [.ref 150, .ref 65, .ref 67, .int (nI (W + 1 + 1))] (qb_hp (qj A1 u), 149, c) = some (some (.int (r)), (qb_hp (qj M2 u), 149, c)) := fun u => by
    have := o1 u
    rw [qj_j] at this
    exact this
  have o2 : ∀ u, qe (d' + 4) 279 [.ref 192] (qb_hp (qj u B1), 149, c) = some (some (.int (r)), (qb_hp (qj u M2), 149, c)) := fun u => by
    have := o2 u
    rw [qj_J] at this
    exact this
  rcases o3 with ⟨hr, ⟨p', hp', hC1, hM1⟩, ⟨a', o', ⟨⟨s1, s2⟩, ⟨s3, s4⟩, s5⟩, w1, w2, w3, w4, w5⟩, gF⟩ | ⟨hr, hf, gF⟩
  · subst hr
    have hlt := wE_lt w5
    obtain ⟨t1, t2⟩ := pc_takeSign d c hC1 41 (by decide)
    have hsg := fun u => pm_isSign (d' + 3) c hM1 41 (by decide) u
    have cF : ∀ u R, qa_lm (qe (d + 4)) (qa_cd qc_143) (71, [.ref 150, .ref 65, .ref 67, .int (nI (W + 1)), .null], [], (qb_hp (qj M2 u), 149, c)) = R → qe (d + 5) 143 [.ref 150, .ref 65, .ref 67, .int (nI (W + 1))] (qb_hp (qj M u), 149, c) = R := fun u R hR => cE u _ (by
      refine go_ald_5_0 rfl ?_
      refine go_ald_5_1 rfl ?_
      refine go_ald_5_2 rfl ?_
      refine go_ild_5_3 rfl ?_
      refine go_c rfl ?_
      refine go_iadd rfl ?_
      rw [nI_1]
      refine go_call4 rfl (o1 u) (Nat.le_of_ble_eq_true rfl) (qb_qv rfl (by decide) (by decide)) ?_
      refine go_ifeq rfl (fun e => ?_) (fun e => ?_)
      · exact absurd e (by decide)
      · exact hR)
    have mF : ∀ u R, qa_lm (qe (d' + 4)) (qa_cd qc_282) (9, [.ref 192], [], (qb_hp (qj u M2), 149, c)) = R → qe (d' + 5) 282 [.ref 192] (qb_hp (qj u B1), 149, c) = R := fun u R hR => by
      refine (en_282 (d' + 4) 192 _).trans ?_
      refine go_ald_1_0 rfl ?_
      refine go_call1 rfl (o2 u) (Nat.le_of_ble_eq_true rfl) (qb_qv rfl (by decide) (by decide)) ?_
      refine go_ifne rfl (fun e => ?_) (fun e => ?_)
      · exact absurd e (by decide)
      · exact hR
    by_cases h41 : tx_k n l b p' = 41
    · obtain ⟨A3, c1, c2, c3⟩ := t1 h41
      obtain ⟨B3, m1, m2, m3⟩ := pm_go (d' + 1) c hM1
      have e3 := tx_e_lt hC1.1 (by omega) (by omega : tx_k n l b p' ≠ 1)
      have gA : qG (wF a) M A3 := (g1.tr gF).tr (c3.mo (fun x k h => by unfold wF; omega))
      have gB : qG (wF a) M (qb_ui B3 192 43 (nI W)) := ((g1.tr gF).tr (m3.mo (fun x k h => by unfold wF; omega))).ui (by unfold wF; omega)
      have gB2 : qG (fun x k => x = 192 ∧ (5 ≤ k ∧ k ≤ 9 ∨ k = 12 ∨ k = 43)) M2 (qb_ui B3 192 43 (nI W)) := (m3.mo (fun x k h => by omega)).ui (by omega)
      refine bo_good (A := A3) (B := qb_ui B3 192 43 (nI W)) (p' := tx_e n l b p') (P1 := wF a) (Q1 := wF a) (fun u => cF u _ ?_) (fun u => mE u _ (fun y2 => ?_)) (by omega) c2 (m2.mv (P := fun x k => x = 192 ∧ k = 43) (qG.rf.ui ⟨rfl, rfl⟩) (fun x k h => by omega)) ?_ gA gB (fun x j h => h.elim (fun z => z.2) (fun z => z.2))
      · refine go_ald_5_1 rfl ?_
        refine go_c rfl ?_
        refine go_call2 rfl (c1 u) (Nat.le_of_ble_eq_true rfl) (qb_qv rfl (by decide) (by decide)) ?_
        refine go_ifeq rfl (fun e => ?_) (fun e => ?_)
        · exact absurd e (by decide)
        · refine go_c rfl ?_
          refine go_goto rfl ?_
          exact fin_i rfl rfl rfl
      · have h282 : qe (d' + 5) 282 [.ref 192] (qb_hp (qj u B1), 149, c) = some (some (.int (1)), (qb_hp (qj u B3), 149, c)) := mF u _ (by
          refine go_ald_1_0 rfl ?_
          refine go_c rfl ?_
          refine go_call2 rfl (hsg u) (Nat.le_of_ble_eq_true rfl) (qb_qv rfl (by decide) (by decide)) ?_
          refine go_ifne rfl (fun e => ?_) (fun e => ?_)
          · exact absurd h41 (qB_0.mp e)
          · refine go_ald_1_0 rfl ?_
            refine go_call1 rfl (m1 u) (Nat.le_of_ble_eq_true rfl) (qb_qv rfl (by decide) (by decide)) ?_
            refine go_c rfl ?_
            exact fin_i rfl rfl rfl)
        refine go_ald_4_0 rfl ?_
        refine go_call1 rfl (h282) (Nat.le_of_ble_eq_true rfl) (qb_qv rfl (by decide) (by decide)) ?_
        refine go_ist_4_3 rfl rfl ?_
        refine go_goto rfl ?_
        exact pm_tailW _ c _ u _ _ ((m3.i (by omega)).trans s5)
      · refine ⟨a', o', ⟨⟨(c3.i (by omega)).trans s1, ?_⟩, ⟨(c3.i (by omega)).trans s3, ?_⟩, ?_⟩, by omega, w2, by omega, ?_, ?_⟩
        · exact (gB2.i (by omega)).trans s2
        · exact (gB2.i (by omega)).trans s4
        · show (qb_ui B3 192 43 (nI W)).1 192 43 = _
          exact qb_ui_1s
        · exact (gB2.i (by omega)).trans w4
        · exact wE_mv (M := M2) (N := qj A3 (qb_ui B3 192 43 (nI W))) (a := a') (fun i hi => ⟨c3.p (by omega), c3.i (by omega), c3.i (by omega)⟩) (fun j hj => (show (qb_ui B3 192 43 (nI W)).1 211 j = M2.1 211 j from gB2.i (by omega))) _ a a' (Nat.le_refl _) w5
    · have hb := fun u => pm_bad (d' + 3) c hM1 1 u
      rw [ite_self] at hb
      have gG : qG (wF 0) M M2 := (g1.tr gF).mo (fun x k h => wF_mo (Nat.zero_le _) h)
      refine one_bad (d + 5) (d' + 6) c (A := M2) (B := M2) (f := 1) (pl := tx_p n l b p') (v := (fM M2 1 (tx_p n l b p')).1 192 43 - 1) (tx_p9 hC1) gG gG (fun u => cF u _ ?_) (fun u => mE u _ (fun y2 => ?_))
      · refine go_ald_5_1 rfl ?_
        refine go_c rfl ?_
        refine go_call2 rfl (t2 h41 u) (Nat.le_of_ble_eq_true rfl) (qb_qv rfl (by decide) (by decide)) ?_
        refine go_ifeq rfl (fun e => ?_) (fun e => ?_)
        · refine go_c rfl ?_
          exact fin_i rfl rfl rfl
        · exact absurd rfl e
      · have h282 : qe (d' + 5) 282 [.ref 192] (qb_hp (qj u B1), 149, c) = some (some (.int (0)), (qb_hp (qj u (fM M2 1 (tx_p n l b p'))), 149, c)) := mF u _ (by
          refine go_ald_1_0 rfl ?_
          refine go_c rfl ?_
          refine go_call2 rfl (hsg u) (Nat.le_of_ble_eq_true rfl) (qb_qv rfl (by decide) (by decide)) ?_
          refine go_ifne rfl (fun e => ?_) (fun e => ?_)
          · refine go_ald_1_0 rfl ?_
            refine go_c rfl ?_
            refine go_call2 rfl (hb u) (Nat.le_of_ble_eq_true rfl) (qb_qv rfl (by decide) (by decide)) ?_
            exact fin_i rfl rfl rfl
          · exact absurd (qB_f h41) e)
        refine go_ald_4_0 rfl ?_
        refine go_call1 rfl (h282) (Nat.le_of_ble_eq_true rfl) (qb_qv rfl (by decide) (by decide)) ?_
        refine go_ist_4_3 rfl rfl ?_
        refine go_goto rfl ?_
        exact pm_tail _ c _ u _ _ (Or.inl rfl)
  · subst hr
    obtain ⟨f, pl, f0, f1, f2, f3, f4⟩ := hf
    have gG : qG wG M M2 := (g1.mo (fun x k h => Or.inl (wF_mo (Nat.zero_le _) h))).tr gF
    refine ⟨qj M2 (qb_ui M2 192 43 (M2.1 192 43 - 1)), 0, fun u => cE u _ ?_, fun u => mE u _ (fun y2 => ?_), Or.inr ⟨rfl, ⟨f, pl, f0, f1, f2, f3, f4⟩, (qj_G gG (gG.ui (v := M2.1 192 43 - 1) (x := 192) (k := 43) (Or.inl (by unfold wF; omega)))).mo (fun x k h => h.elim (fun z => z.2) (fun z => z.2))⟩⟩
    · rw [qj_j]
      refine go_ald_5_0 rfl ?_
      refine go_ald_5_1 rfl ?_
      refine go_ald_5_2 rfl ?_
      refine go_ild_5_3 rfl ?_
      refine go_c rfl ?_
      refine go_iadd rfl ?_
      rw [nI_1]
      refine go_call4 rfl (o1 u) (Nat.le_of_ble_eq_true rfl) (qb_qv rfl (by decide) (by decide)) ?_
      refine go_ifeq rfl (fun e => ?_) (fun e => ?_)
      · refine go_c rfl ?_
        exact fin_i rfl rfl rfl
      · exact absurd rfl e
    · have h282 : qe (d' + 5) 282 [.ref 192] (qb_hp (qj u B1), 149, c) = some (some (.int (0)), (qb_hp (qj u M2), 149, c)) := by
        refine (en_282 (d' + 4) 192 _).trans ?_
        refine go_ald_1_0 rfl ?_
        refine go_call1 rfl (o2 u) (Nat.le_of_ble_eq_true rfl) (qb_qv rfl (by decide) (by decide)) ?_
        refine go_ifne rfl (fun e => ?_) (fun e => ?_)
        · refine go_c rfl ?_
          exact fin_i rfl rfl rfl
        · exact absurd rfl e
      rw [qj_J]
      refine go_ald_4_0 rfl ?_
      refine go_call1 rfl (h282) (Nat.le_of_ble_eq_true rfl) (qb_qv rfl (by decide) (by decide)) ?_
      refine go_ist_4_3 rfl rfl ?_
      refine go_goto rfl ?_
      exact pm_tail _ c _ u _ _ (Or.inl rfl)
