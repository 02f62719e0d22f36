/-! a sentence: ones joined by 'and', and by 'or' -/
theorem all_loop (d d' : Nat) (c : Nat × Nat) {n l : Nat} {b : Nat → Nat} {ns W a o p0 : Nat} (ha0 : a ≤ 2 * o) (next : ∀ M1 p1 a1 o1, p0 < p1 → wI n l b ns M1 a1 o1 W p1 → oneS (d + 3) (d' + 3) c n l b p1 ns M1 a1 o1 W) : ∀ (m : Nat) (M : qb_M) (p i a1 o1 : Nat), n - p < m → p0 < p → wI n l b ns M a1 o1 W p → o + i + 1 ≤ o1 → a1 + 1 ≤ a + 2 * (o1 - o) → wE M ns (a1 - a) a a1 → ∃ M' r, (∀ u, qa_lm (qe (d + 3)) (qa_cd qc_142) (12, [.ref 150, .ref 65, .ref 67, .int (nI (W + 1)), .int 1, .int (nI i)], [], (qb_hp (qj M u), 149, c)) = some (some (.int (r)), (qb_hp (qj M' u), 149, c))) ∧ (∀ u, qa_lm (qe (d' + 3)) (qa_cd qc_280) (14, [.ref 192, .int (nI (a1 - 1))], [], (qb_hp (qj u M), 149, c)) = some (some (.int (r)), (qb_hp (qj u M'), 149, c))) ∧ rO (wF a) wG n l b p0 M M' r (fun M' => wO M' a o W ns) := by
  intro m
  induction m with
  | zero => intro M p i a1 o1 h; exact absurd h (Nat.not_lt_zero _)
  | succ m ih =>
    intro M p i a1 o1 hm hp0 hI hi ha1 hE
    obtain ⟨hC, hM, hS, ho, ha2, hW, hN⟩ := id hI
    have hlt := wE_lt hE
    have hpn := hC.1
    have qc := fun u => pc_isAt (d + 2) c hC 14 (by decide) u
    have qm := fun u => pm_isWord d' c hM 13 (by decide) u
    have cE : ∀ u R, ((tx_k n l b p = 2 ∧ tx_wd (tx_l n b p) = some 14) → qa_lm (qe (d + 3)) (qa_cd qc_142) (34, [.ref 150, .ref 65, .ref 67, .int (nI (W + 1)), .int 1, .int (nI i)], [], (qb_hp (qj M u), 149, c)) = R) → (¬ (tx_k n l b p = 2 ∧ tx_wd (tx_l n b p) = some 14) → some (some (.int (1)), (qb_hp (qj M u), 149, c)) = R) → qa_lm (qe (d + 3)) (qa_cd qc_142) (12, [.ref 150, .ref 65, .ref 67, .int (nI (W + 1)), .int 1, .int (nI i)], [], (qb_hp (qj M u), 149, c)) = R := fun u R g1 g2 => by
      refine go_ild_6_5 rfl ?_
      refine go_c rfl ?_
      refine go_icge rfl (fun e => ?_) (fun e => ?_)
      · exact absurd e (nI_ge (b := 20) (by omega) (by decide))
      · refine go_ild_6_4 rfl ?_
        refine go_ifeq rfl (fun e2 => ?_) (fun e2 => ?_)
        · exact absurd e2 (by decide)
        · refine go_ald_6_1 rfl ?_
          refine go_c rfl ?_
          refine go_call2 rfl (qc u) (Nat.le_of_ble_eq_true rfl) (qb_qv rfl (by decide) (by decide)) ?_
          refine go_ifeq rfl (fun e3 => ?_) (fun e3 => ?_)
          · have := g2 (qB_0.mp e3)
            refine go_ild_6_4 rfl ?_
            exact fin_i rfl rfl this
          · exact g1 (Classical.byContradiction fun z => e3 (qB_f z))
    have mE : ∀ u R, ((tx_k n l b p = 2 ∧ tx_wd (tx_l n b p) = some 14) → qa_lm (qe (d' + 3)) (qa_cd qc_280) (23, [.ref 192, .int (nI (a1 - 1))], [], (qb_hp (qj u M), 149, c)) = R) → (¬ (tx_k n l b p = 2 ∧ tx_wd (tx_l n b p) = some 14) → some (some (.int (1)), (qb_hp (qj u (qb_ui M 192 44 (nI (a1 - 1)))), 149, c)) = R) → qa_lm (qe (d' + 3)) (qa_cd qc_280) (14, [.ref 192, .int (nI (a1 - 1))], [], (qb_hp (qj u M), 149, c)) = R := fun u R g1 g2 => by
      refine go_ald_2_0 rfl ?_
      refine go_c rfl ?_
      refine go_call2 rfl (qm u) (Nat.le_of_ble_eq_true rfl) (qb_qv rfl (by decide) (by decide)) ?_
      refine go_ifeq rfl (fun e3 => ?_) (fun e3 => ?_)
      · have := g2 (qB_0.mp e3)
        refine go_ald_2_0 rfl ?_
        refine go_ild_2_1 rfl ?_
        refine go_puti rfl ⟨_, rfl, rfl, by decide, by decide⟩ rfl rfl ?_
        rw [qj_UI (by decide)]
        refine go_c rfl ?_
        exact fin_i rfl rfl this
      · exact g1 (Classical.byContradiction fun z => e3 (qB_f z))
    by_cases hw : tx_k n l b p = 2 ∧ tx_wd (tx_l n b p) = some 14
    · obtain ⟨A2, c1, c2, c3⟩ := pc_step d c hC
      obtain ⟨B2, m1, m2, m3⟩ := pm_go d' c hM
      have e1 := tx_e_lt hC.1 (by omega) (by omega : tx_k n l b p ≠ 1)
      have g2 : qG (wF a1) M (qj A2 B2) := (qj_G c3 m3).mo (fun x k h => by unfold wF; omega)
      have i2 : wI n l b ns (qj A2 B2) a1 o1 W (tx_e n l b p) := ⟨rC_j c2, rM_j m2, ⟨⟨(c3.i (by omega)).trans hS.1.1, (m3.i (by omega)).trans hS.1.2⟩, ⟨(c3.i (by omega)).trans hS.2.1.1, (m3.i (by omega)).trans hS.2.1.2⟩, (m3.i (by omega)).trans hS.2.2⟩, ho, ha2, hW, wN_mv hN g2 (fun x k h => wF_no h)⟩
      obtain ⟨M3, r, o1', o2', o3'⟩ := next (qj A2 B2) (tx_e n l b p) a1 o1 (by omega) i2
      have n1 : ∀ u, qe (d + 3) 143 [.ref 150, .ref 65, .ref 67, .int (nI (W + 1))] (qb_hp (qj A2 u), 149, c) = some (some (.int (r)), (qb_hp (qj M3 u), 149, c)) := fun u => by
        have := o1' u
        rw [qj_j] at this
        exact this
      have n2 : ∀ u, qe (d' + 3) 281 [.ref 192] (qb_hp (qj u B2), 149, c) = some (some (.int (r)), (qb_hp (qj u M3), 149, c)) := fun u => by
        have := o2' u
        rw [qj_J] at this
        exact this
      rcases o3' with ⟨hr, ⟨p', hp', hC3, hM3⟩, ⟨a', o', ⟨⟨s1, s2⟩, ⟨s3, s4⟩, s5⟩, w1, w2, w3, w4, w5⟩, gF⟩ | ⟨hr, hf, gF⟩
      · subst hr
        have hlt2 := wE_lt w5
        have g3 : qG (wF a1) M M3 := g2.tr gF
        obtain ⟨A4, t1, t2, t3, t4, t5, t6⟩ := sn_add (d + 2) c (A := M3) (a := a') (w := 14) (by omega) (by decide) s1 0 0
        obtain ⟨B4, v1, ⟨v2, v3, v4, v5⟩, v6, v7⟩ := sn_says (d' + 2) c (B := M3) (a := a') (by omega) s2 2 (nI (a1 - 1)) (nI (a' - 1)) 0
        have gJ := qj_G t6 v7
        have gJ2 : qG (wF a') M3 (qj A4 B4) := gJ.mo (fun x k h => by unfold wF; omega)
        have i4 : wI n l b ns (qj A4 B4) (a' + 1) o' W p' := ⟨rC_j (hC3.mv t6 (fun x k h => by omega)), rM_j (hM3.mv v7 (fun x k h => by omega)), ⟨⟨t5, v6⟩, ⟨(t6.i (by omega)).trans s3, (v7.i (by omega)).trans s4⟩, (v7.i (by omega)).trans s5⟩, w2, by omega, hW, wN_mv (wN_mv hN g3 (fun x k h => wF_no h)) gJ2 (fun x k h => wF_no h)⟩
        have hE4 : wE (qj A4 B4) ns (a' + 1 - a) a (a' + 1) := by
          have k1 : ∀ i, i < a1 → (qj A4 B4).2.2 151 i = M.2.2 151 i ∧ (qj A4 B4).1 152 i = M.1 152 i ∧ (qj A4 B4).1 153 i = M.1 153 i := fun i hi => ⟨(t6.p (by omega)).trans (g3.p (by unfold wF; omega)), (t6.i (by omega)).trans (g3.i (by unfold wF; omega)), (t6.i (by omega)).trans (g3.i (by unfold wF; omega))⟩
          have k2 : ∀ j, j < 4 * a1 → (qj A4 B4).1 211 j = M.1 211 j := fun j hj => (v7.i (by omega)).trans (g3.i (by unfold wF; omega))
          have k3 : ∀ i, i < a' → (qj A4 B4).2.2 151 i = M3.2.2 151 i ∧ (qj A4 B4).1 152 i = M3.1 152 i ∧ (qj A4 B4).1 153 i = M3.1 153 i := fun i hi => ⟨t6.p (by omega), t6.i (by omega), t6.i (by omega)⟩
          have k4 : ∀ j, j < 4 * a' → (qj A4 B4).1 211 j = M3.1 211 j := fun j hj => v7.i (by omega)
          rw [show a' + 1 - a = (a' - a) + 1 by omega]
          refine ⟨by omega, by omega, Or.inr (Or.inr ⟨a1, ?_, ?_, ?_, ?_, ?_⟩)⟩
          · rw [Nat.add_sub_cancel]
            exact Or.inl ⟨v2, t2⟩
          · rw [Nat.add_sub_cancel]
            exact v3
          · rw [Nat.add_sub_cancel]
            exact v4
          · exact wE_mono _ _ a a1 (by omega) (wE_mv k1 k2 _ a a1 (Nat.le_refl _) hE)
          · rw [Nat.add_sub_cancel]
            exact wE_mono _ _ a1 a' (by omega) (wE_mv k3 k4 _ a1 a' (Nat.le_refl _) w5)
        have hC3n := hC3.1
        obtain ⟨M', r', z1, z2, z3⟩ := ih (qj A4 B4) p' (i + 1) (a' + 1) o' (by omega) (by omega) i4 (by omega) (by omega) hE4
        have gA : qG (wF a) M (qj A4 B4) := (g3.mo (fun x k h => wF_mo (by omega) h)).tr (gJ2.mo (fun x k h => wF_mo (by omega) h))
        refine ⟨M', r', fun u => cE u _ (fun _ => ?_) (fun z => absurd hw z), fun u => mE u _ (fun _ => ?_) (fun z => absurd hw z), ?_⟩
        · have z1 := z1 u
          rw [qj_j] at z1
          refine go_ald_6_1 rfl ?_
          refine go_call1 rfl (c1 u) (Nat.le_of_ble_eq_true rfl) (qb_qv rfl (by decide) (by decide)) ?_
          refine go_ald_6_0 rfl ?_
          refine go_ald_6_1 rfl ?_
          refine go_ald_6_2 rfl ?_
          refine go_ild_6_3 rfl ?_
          refine go_call4 rfl (n1 u) (Nat.le_of_ble_eq_true rfl) (qb_qv rfl (by decide) (by decide)) ?_
          refine go_ifeq rfl (fun e => ?_) (fun e => ?_)
          · exact absurd e (by decide)
          · refine go_ald_6_0 rfl ?_
            refine go_c rfl ?_
            refine go_c rfl ?_
            refine go_c rfl ?_
            refine go_call4 rfl (t1 u) (Nat.le_of_ble_eq_true rfl) (qb_qv rfl (by decide) (by decide)) ?_
            refine go_ifeq rfl (fun e2 => ?_) (fun e2 => ?_)
            · exact absurd e2 (by decide)
            · refine go_c rfl ?_
              refine go_goto rfl ?_
              refine go_ist_6_4 rfl rfl ?_
              refine go_inc_6_5 rfl rfl ?_
              refine go_goto rfl ?_
              rw [nI_1]
              exact z1
        · have z2 := z2 u
          rw [qj_J, Nat.add_sub_cancel] at z2
          refine go_ald_2_0 rfl ?_
          refine go_call1 rfl (m1 u) (Nat.le_of_ble_eq_true rfl) (qb_qv rfl (by decide) (by decide)) ?_
          refine go_ald_2_0 rfl ?_
          refine go_call1 rfl (n2 u) (Nat.le_of_ble_eq_true rfl) (qb_qv rfl (by decide) (by decide)) ?_
          refine go_ifne rfl (fun e => ?_) (fun e => ?_)
          · exact absurd e (by decide)
          · refine go_ald_2_0 rfl ?_
            refine go_c rfl ?_
            refine go_ild_2_1 rfl ?_
            refine go_ald_2_0 rfl ?_
            refine go_geti rfl ⟨_, rfl, rfl, by decide, by decide⟩ ?_
            rw [show (qj u M3).1 192 44 = nI (a' - 1) from w4]
            refine go_c rfl ?_
            refine go_call5 rfl (v1 u) (Nat.le_of_ble_eq_true rfl) (qb_qv rfl (by decide) (by decide)) ?_
            refine go_ist_2_1 rfl rfl ?_
            refine go_goto rfl ?_
            exact z2
        · rcases z3 with ⟨y1, y2, y3, y4⟩ | ⟨y1, y2, y3⟩
          · exact Or.inl ⟨y1, y2, y3, gA.tr y4⟩
          · exact Or.inr ⟨y1, y2, (gA.mo (fun x k h => Or.inl (wF_mo (Nat.zero_le _) h))).tr y3⟩
      · subst hr
        refine ⟨M3, 0, fun u => cE u _ (fun _ => ?_) (fun z => absurd hw z), fun u => mE u _ (fun _ => ?_) (fun z => absurd hw z), Or.inr ⟨rfl, hf, (g2.mo (fun x k h => Or.inl (wF_mo (Nat.zero_le _) h))).tr gF⟩⟩
        · refine go_ald_6_1 rfl ?_
          refine go_call1 rfl (c1 u) (Nat.le_of_ble_eq_true rfl) (qb_qv rfl (by decide) (by decide)) ?_
          refine go_ald_6_0 rfl ?_
          refine go_ald_6_1 rfl ?_
          refine go_ald_6_2 rfl ?_
          refine go_ild_6_3 rfl ?_
          refine go_call4 rfl (n1 u) (Nat.le_of_ble_eq_true rfl) (qb_qv rfl (by decide) (by decide)) ?_
          refine go_ifeq rfl (fun e => ?_) (fun e => ?_)
          · refine go_c rfl ?_
            refine go_ist_6_4 rfl rfl ?_
            refine go_inc_6_5 rfl rfl ?_
            refine go_goto rfl ?_
            refine go_ild_6_5 rfl ?_
            refine go_c rfl ?_
            refine go_icge rfl (fun e2 => ?_) (fun e2 => ?_)
            · refine go_ild_6_4 rfl ?_
              exact fin_i rfl rfl rfl
            · refine go_ild_6_4 rfl ?_
              refine go_ifeq rfl (fun e3 => ?_) (fun e3 => ?_)
              · refine go_ild_6_4 rfl ?_
                exact fin_i rfl rfl rfl
              · exact absurd rfl e3
          · exact absurd rfl e
        · refine go_ald_2_0 rfl ?_
          refine go_call1 rfl (m1 u) (Nat.le_of_ble_eq_true rfl) (qb_qv rfl (by decide) (by decide)) ?_
          refine go_ald_2_0 rfl ?_
          refine go_call1 rfl (n2 u) (Nat.le_of_ble_eq_true rfl) (qb_qv rfl (by decide) (by decide)) ?_
          refine go_ifne rfl (fun e => ?_) (fun e => ?_)
          · refine go_c rfl ?_
            exact fin_i rfl rfl rfl
          · exact absurd rfl e
    · have gT : qG (fun x k => x = 192 ∧ k = 44) M (qb_ui M 192 44 (nI (a1 - 1))) := qG.rf.ui ⟨rfl, rfl⟩
      have gU := qj_G (P := fun x k => x = 1000) (Q := fun x k => x = 192 ∧ k = 44) (M := M) (A := M) qG.rf gT
      refine ⟨qj M (qb_ui M 192 44 (nI (a1 - 1))), 1, fun u => cE u _ (fun z => absurd z hw) (fun _ => by rw [qj_j]), fun u => mE u _ (fun z => absurd z hw) (fun _ => by rw [qj_J]), Or.inl ⟨rfl, ⟨p, hp0, rC_j hC, rM_j (hM.mv gT (fun x k h => by omega))⟩, ⟨a1, o1, ⟨⟨hS.1.1, (gT.i (by omega)).trans hS.1.2⟩, ⟨hS.2.1.1, (gT.i (by omega)).trans hS.2.1.2⟩, (gT.i (by omega)).trans hS.2.2⟩, by omega, ho, ha1, ?_, ?_⟩, gU.mo (fun x k h => by unfold wF; omega)⟩⟩
      · show (qb_ui M 192 44 (nI (a1 - 1))).1 192 44 = _
        exact qb_ui_1s
      · exact wE_mv (M := M) (N := qj M (qb_ui M 192 44 (nI (a1 - 1)))) (a := a1) (fun i hi => ⟨gU.p (by omega), gU.i (by omega), gU.i (by omega)⟩) (fun j hj => gU.i (by omega)) _ a a1 (Nat.le_refl _) hE
theorem all_of (d d' : Nat) (c : Nat × Nat) {M : qb_M} {n l : Nat} {b : Nat → Nat} {ns W a o p : Nat} (hI : wI n l b ns M a o W p) (next : ∀ M1 p1 a1 o1, p ≤ p1 → wI n l b ns M1 a1 o1 W p1 → oneS (d + 3) (d' + 3) c n l b p1 ns M1 a1 o1 W) : allS (d + 4) (d' + 4) c n l b p ns M a o W := by
  obtain ⟨hC, hM, hS, ho, ha2, hW, hN⟩ := id hI
  obtain ⟨M1, r, o1', o2', o3'⟩ := next M p a o (Nat.le_refl _) hI
  rcases o3' with ⟨hr, ⟨p', hp', hC3, hM3⟩, ⟨a', o', hS', w1, w2, w3, w4, w5⟩, gF⟩ | ⟨hr, hf, gF⟩
  · subst hr
    obtain ⟨M', r', z1, z2, z3⟩ := all_loop d d' c (ns := ns) (a := a) (o := o) (p0 := p) ha2 (fun M1 p1 a1 o1 h => next M1 p1 a1 o1 (by omega)) (n - p' + 1) M1 p' 0 a' o' (by omega) hp' ⟨hC3, hM3, hS', w2, by omega, hW, wN_mv hN gF (fun x k h => wF_no h)⟩ (by omega) w3 w5
    refine ⟨M', r', fun u => ?_, fun u => ?_, ?_⟩
    · refine (en_142 (d + 3) 150 65 67 (nI (W + 1)) _).trans ?_
      refine go_ald_6_0 rfl ?_
      refine go_ald_6_1 rfl ?_
      refine go_ald_6_2 rfl ?_
      refine go_ild_6_3 rfl ?_
      refine go_call4 rfl (o1' u) (Nat.le_of_ble_eq_true rfl) (qb_qv rfl (by decide) (by decide)) ?_
      refine go_ist_6_4 rfl rfl ?_
      refine go_c rfl ?_
      refine go_ist_6_5 rfl rfl ?_
      exact z1 u
    · refine (en_280 (d' + 3) 192 _).trans ?_
      refine go_ald_2_0 rfl ?_
      refine go_call1 rfl (o2' u) (Nat.le_of_ble_eq_true rfl) (qb_qv rfl (by decide) (by decide)) ?_
      refine go_ifne rfl (fun e => ?_) (fun e => ?_)
      · exact absurd e (by decide)
      · refine go_ald_2_0 rfl ?_
        refine go_geti rfl ⟨_, rfl, rfl, by decide, by decide⟩ ?_
        rw [show (qj u M1).1 192 44 = nI (a' - 1) from w4]
        refine go_ist_2_1 rfl rfl ?_
        exact z2 u
    · rcases z3 with ⟨y1, y2, y3, y4⟩ | ⟨y1, y2, y3⟩
      · exact Or.inl ⟨y1, y2, y3, gF.tr y4⟩
      · exact Or.inr ⟨y1, y2, (gF.mo (fun x k h => Or.inl (wF_mo (Nat.zero_le _) h))).tr y3⟩
  · subst hr
    refine ⟨M1, 0, fun u => ?_, fun u => ?_, Or.inr ⟨rfl, hf, gF⟩⟩
    · refine (en_142 (d + 3) 150 65 67 (nI (W + 1)) _).trans ?_
      refine go_ald_6_0 rfl ?_
      refine go_ald_6_1 rfl ?_
      refine go_ald_6_2 rfl ?_
      refine go_ild_6_3 rfl ?_
      refine go_call4 rfl (o1' u) (Nat.le_of_ble_eq_true rfl) (qb_qv rfl (by decide) (by decide)) ?_
      refine go_ist_6_4 rfl rfl ?_
      refine go_c rfl ?_
      refine go_ist_6_5 rfl rfl ?_
      refine go_ild_6_5 rfl ?_
      refine go_c rfl ?_
      refine go_icge rfl (fun e2 => ?_) (fun e2 => ?_)
      · exact absurd e2 (by decide)
      · refine go_ild_6_4 rfl ?_
        refine go_ifeq rfl (fun e3 => ?_) (fun e3 => ?_)
        · refine go_ild_6_4 rfl ?_
          exact fin_i rfl rfl rfl
        · exact absurd rfl e3
    · refine (en_280 (d' + 3) 192 _).trans ?_
      refine go_ald_2_0 rfl ?_
      refine go_call1 rfl (o2' u) (Nat.le_of_ble_eq_true rfl) (qb_qv rfl (by decide) (by decide)) ?_
      refine go_ifne rfl (fun e => ?_) (fun e => ?_)
      · refine go_c rfl ?_
        exact fin_i rfl rfl rfl
      · exact absurd rfl e
theorem any_loop (d d' : Nat) (c : Nat × Nat) {n l : Nat} {b : Nat → Nat} {ns W a o p0 : Nat} (ha0 : a ≤ 2 * o) (next : ∀ M1 p1 a1 o1, p0 < p1 → wI n l b ns M1 a1 o1 W p1 → allS (d + 3) (d' + 3) c n l b p1 ns M1 a1 o1 W) : ∀ (m : Nat) (M : qb_M) (p i a1 o1 : Nat), n - p < m → p0 < p → wI n l b ns M a1 o1 W p → o + i + 1 ≤ o1 → a1 + 1 ≤ a + 2 * (o1 - o) → wE M ns (a1 - a) a a1 → ∃ M' r, (∀ u, qa_lm (qe (d + 3)) (qa_cd qc_141) (12, [.ref 150, .ref 65, .ref 67, .int (nI (W + 1)), .int 1, .int (nI i)], [], (qb_hp (qj M u), 149, c)) = some (some (.int (r)), (qb_hp (qj M' u), 149, c))) ∧ (∀ u, qa_lm (qe (d' + 3)) (qa_cd qc_279) (14, [.ref 192, .int (nI (a1 - 1))], [], (qb_hp (qj u M), 149, c)) = some (some (.int (r)), (qb_hp (qj u M'), 149, c))) ∧ rO (wF a) wG n l b p0 M M' r (fun M' => wO M' a o W ns) := by
  intro m
  induction m with
  | zero => intro M p i a1 o1 h; exact absurd h (Nat.not_lt_zero _)
  | succ m ih =>
    intro M p i a1 o1 hm hp0 hI hi ha1 hE
    obtain ⟨hC, hM, hS, ho, ha2, hW, hN⟩ := id hI
    have hlt := wE_lt hE
    have hpn := hC.1
    have qc := fun u => pc_isAt (d + 2) c hC 13 (by decide) u
    have qm := fun u => pm_isWord d' c hM 12 (by decide) u
    have cE : ∀ u R, ((tx_k n l b p = 2 ∧ tx_wd (tx_l n b p) = some 13) → qa_lm (qe (d + 3)) (qa_cd qc_141) (34, [.ref 150, .ref 65, .ref 67, .int (nI (W + 1)), .int 1, .int (nI i)], [], (qb_hp (qj M u), 149, c)) = R) → (¬ (tx_k n l b p = 2 ∧ tx_wd (tx_l n b p) = some 13) → some (some (.int (1)), (qb_hp (qj M u), 149, c)) = R) → qa_lm (qe (d + 3)) (qa_cd qc_141) (12, [.ref 150, .ref 65, .ref 67, .int (nI (W + 1)), .int 1, .int (nI i)], [], (qb_hp (qj M u), 149, c)) = R := fun u R g1 g2 => by
      refine go_ild_6_5 rfl ?_
      refine go_c rfl ?_
      refine go_icge rfl (fun e => ?_) (fun e => ?_)
      · exact absurd e (nI_ge (b := 20) (by omega) (by decide))
      · refine go_ild_6_4 rfl ?_
        refine go_ifeq rfl (fun e2 => ?_) (fun e2 => ?_)
        · exact absurd e2 (by decide)
        · refine go_ald_6_1 rfl ?_
          refine go_c rfl ?_
          refine go_call2 rfl (qc u) (Nat.le_of_ble_eq_true rfl) (qb_qv rfl (by decide) (by decide)) ?_
          refine go_ifeq rfl (fun e3 => ?_) (fun e3 => ?_)
          · have := g2 (qB_0.mp e3)
            refine go_ild_6_4 rfl ?_
            exact fin_i rfl rfl this
          · exact g1 (Classical.byContradiction fun z => e3 (qB_f z))
    have mE : ∀ u R, ((tx_k n l b p = 2 ∧ tx_wd (tx_l n b p) = some 13) → qa_lm (qe (d' + 3)) (qa_cd qc_279) (23, [.ref 192, .int (nI (a1 - 1))], [], (qb_hp (qj u M), 149, c)) = R) → (¬ (tx_k n l b p = 2 ∧ tx_wd (tx_l n b p) = some 13) → some (some (.int (1)), (qb_hp (qj u (qb_ui M 192 44 (nI (a1 - 1)))), 149, c)) = R) → qa_lm (qe (d' + 3)) (qa_cd qc_279) (14, [.ref 192, .int (nI (a1 - 1))], [], (qb_hp (qj u M), 149, c)) = R := fun u R g1 g2 => by
      refine go_ald_2_0 rfl ?_
      refine go_c rfl ?_
      refine go_call2 rfl (qm u) (Nat.le_of_ble_eq_true rfl) (qb_qv rfl (by decide) (by decide)) ?_
      refine go_ifeq rfl (fun e3 => ?_) (fun e3 => ?_)
      · have := g2 (qB_0.mp e3)
        refine go_ald_2_0 rfl ?_
        refine go_ild_2_1 rfl ?_
        refine go_puti rfl ⟨_, rfl, rfl, by decide, by decide⟩ rfl rfl ?_
        rw [qj_UI (by decide)]
        refine go_c rfl ?_
        exact fin_i rfl rfl this
      · exact g1 (Classical.byContradiction fun z => e3 (qB_f z))
    by_cases hw : tx_k n l b p = 2 ∧ tx_wd (tx_l n b p) = some 13
    · obtain ⟨A2, c1, c2, c3⟩ := pc_step d c hC
      obtain ⟨B2, m1, m2, m3⟩ := pm_go d' c hM
      have e1 := tx_e_lt hC.1 (by omega) (by omega : tx_k n l b p ≠ 1)
      have g2 : qG (wF a1) M (qj A2 B2) := (qj_G c3 m3).mo (fun x k h => by unfold wF; omega)
      have i2 : wI n l b ns (qj A2 B2) a1 o1 W (tx_e n l b p) := ⟨rC_j c2, rM_j m2, ⟨⟨(c3.i (by omega)).trans hS.1.1, (m3.i (by omega)).trans hS.1.2⟩, ⟨(c3.i (by omega)).trans hS.2.1.1, (m3.i (by omega)).trans hS.2.1.2⟩, (m3.i (by omega)).trans hS.2.2⟩, ho, ha2, hW, wN_mv hN g2 (fun x k h => wF_no h)⟩
      obtain ⟨M3, r, o1', o2', o3'⟩ := next (qj A2 B2) (tx_e n l b p) a1 o1 (by omega) i2
      have n1 : ∀ u, qe (d + 3) 142 [.ref 150, .ref 65, .ref 67, .int (nI (W + 1))] (qb_hp (qj A2 u), 149, c) = some (some (.int (r)), (qb_hp (qj M3 u), 149, c)) := fun u => by
        have := o1' u
        rw [qj_j] at this
        exact this
      have n2 : ∀ u, qe (d' + 3) 280 [.ref 192] (qb_hp (qj u B2), 149, c) = some (some (.int (r)), (qb_hp (qj u M3), 149, c)) := fun u => by
        have := o2' u
        rw [qj_J] at this
        exact this
      rcases o3' with ⟨hr, ⟨p', hp', hC3, hM3⟩, ⟨a', o', ⟨⟨s1, s2⟩, ⟨s3, s4⟩, s5⟩, w1, w2, w3, w4, w5⟩, gF⟩ | ⟨hr, hf, gF⟩
      · subst hr
        have hlt2 := wE_lt w5
        have g3 : qG (wF a1) M M3 := g2.tr gF
        obtain ⟨A4, t1, t2, t3, t4, t5, t6⟩ := sn_add (d + 2) c (A := M3) (a := a') (w := 13) (by omega) (by decide) s1 0 0
        obtain ⟨B4, v1, ⟨v2, v3, v4, v5⟩, v6, v7⟩ := sn_says (d' + 2) c (B := M3) (a := a') (by omega) s2 3 (nI (a1 - 1)) (nI (a' - 1)) 0
        have gJ := qj_G t6 v7
        have gJ2 : qG (wF a') M3 (qj A4 B4) := gJ.mo (fun x k h => by unfold wF; omega)
        have i4 : wI n l b ns (qj A4 B4) (a' + 1) o' W p' := ⟨rC_j (hC3.mv t6 (fun x k h => by omega)), rM_j (hM3.mv v7 (fun x k h => by omega)), ⟨⟨t5, v6⟩, ⟨(t6.i (by omega)).trans s3, (v7.i (by omega)).trans s4⟩, (v7.i (by omega)).trans s5⟩, w2, by omega, hW, wN_mv (wN_mv hN g3 (fun x k h => wF_no h)) gJ2 (fun x k h => wF_no h)⟩
        have hE4 : wE (qj A4 B4) ns (a' + 1 - a) a (a' + 1) := by
          have k1 : ∀ i, i < a1 → (qj A4 B4).2.2 151 i = M.2.2 151 i ∧ (qj A4 B4).1 152 i = M.1 152 i ∧ (qj A4 B4).1 153 i = M.1 153 i := fun i hi => ⟨(t6.p (by omega)).trans (g3.p (by unfold wF; omega)), (t6.i (by omega)).trans (g3.i (by unfold wF; omega)), (t6.i (by omega)).trans (g3.i (by unfold wF; omega))⟩
          have k2 : ∀ j, j < 4 * a1 → (qj A4 B4).1 211 j = M.1 211 j := fun j hj => (v7.i (by omega)).trans (g3.i (by unfold wF; omega))
          have k3 : ∀ i, i < a' → (qj A4 B4).2.2 151 i = M3.2.2 151 i ∧ (qj A4 B4).1 152 i = M3.1 152 i ∧ (qj A4 B4).1 153 i = M3.1 153 i := fun i hi => ⟨t6.p (by omega), t6.i (by omega), t6.i (by omega)⟩
          have k4 : ∀ j, j < 4 * a' → (qj A4 B4).1 211 j = M3.1 211 j := fun j hj => v7.i (by omega)
          rw [show a' + 1 - a = (a' - a) + 1 by omega]
          refine ⟨by omega, by omega, Or.inr (Or.inr ⟨a1, ?_, ?_, ?_, ?_, ?_⟩)⟩
          · rw [Nat.add_sub_cancel]
            exact Or.inr ⟨v2, t2⟩
          · rw [Nat.add_sub_cancel]
            exact v3
          · rw [Nat.add_sub_cancel]
            exact v4
          · exact wE_mono _ _ a a1 (by omega) (wE_mv k1 k2 _ a a1 (Nat.le_refl _) hE)
          · rw [Nat.add_sub_cancel]
            exact wE_mono _ _ a1 a' (by omega) (wE_mv k3 k4 _ a1 a' (Nat.le_refl _) w5)
        have hC3n := hC3.1
        obtain ⟨M', r', z1, z2, z3⟩ := ih (qj A4 B4) p' (i + 1) (a' + 1) o' (by omega) (by omega) i4 (by omega) (by omega) hE4
        have gA : qG (wF a) M (qj A4 B4) := (g3.mo (fun x k h => wF_mo (by omega) h)).tr (gJ2.mo (fun x k h => wF_mo (by omega) h))
        refine ⟨M', r', fun u => cE u _ (fun _ => ?_) (fun z => absurd hw z), fun u => mE u _ (fun _ => ?_) (fun z => absurd hw z), ?_⟩
        · have z1 := z1 u
          rw [qj_j] at z1
          refine go_ald_6_1 rfl ?_
          refine go_call1 rfl (c1 u) (Nat.le_of_ble_eq_true rfl) (qb_qv rfl (by decide) (by decide)) ?_
          refine go_ald_6_0 rfl ?_
          refine go_ald_6_1 rfl ?_
          refine go_ald_6_2 rfl ?_
          refine go_ild_6_3 rfl ?_
          refine go_call4 rfl (n1 u) (Nat.le_of_ble_eq_true rfl) (qb_qv rfl (by decide) (by decide)) ?_
          refine go_ifeq rfl (fun e => ?_) (fun e => ?_)
          · exact absurd e (by decide)
          · refine go_ald_6_0 rfl ?_
            refine go_c rfl ?_
            refine go_c rfl ?_
            refine go_c rfl ?_
            refine go_call4 rfl (t1 u) (Nat.le_of_ble_eq_true rfl) (qb_qv rfl (by decide) (by decide)) ?_
            refine go_ifeq rfl (fun e2 => ?_) (fun e2 => ?_)
            · exact absurd e2 (by decide)
            · refine go_c rfl ?_
              refine go_goto rfl ?_
              refine go_ist_6_4 rfl rfl ?_
              refine go_inc_6_5 rfl rfl ?_
              refine go_goto rfl ?_
              rw [nI_1]
              exact z1
        · have z2 := z2 u
          rw [qj_J, Nat.add_sub_cancel] at z2
          refine go_ald_2_0 rfl ?_
          refine go_call1 rfl (m1 u) (Nat.le_of_ble_eq_true rfl) (qb_qv rfl (by decide) (by decide)) ?_
          refine go_ald_2_0 rfl ?_
          refine go_call1 rfl (n2 u) (Nat.le_of_ble_eq_true rfl) (qb_qv rfl (by decide) (by decide)) ?_
          refine go_ifne rfl (fun e => ?_) (fun e => ?_)
          · exact absurd e (by decide)
          · refine go_ald_2_0 rfl ?_
            refine go_c rfl ?_
            refine go_ild_2_1 rfl ?_
            refine go_ald_2_0 rfl ?_
            refine go_geti rfl ⟨_, rfl, rfl, by decide, by decide⟩ ?_
            rw [show (qj u M3).1 192 44 = nI (a' - 1) from w4]
            refine go_c rfl ?_
            refine go_call5 rfl (v1 u) (Nat.le_of_ble_eq_true rfl) (qb_qv rfl (by decide) (by decide)) ?_
            refine go_ist_2_1 rfl rfl ?_
            refine go_goto rfl ?_
            exact z2
        · rcases z3 with ⟨y1, y2, y3, y4⟩ | ⟨y1, y2, y3⟩
          · exact Or.inl ⟨y1, y2, y3, gA.tr y4⟩
          · exact Or.inr ⟨y1, y2, (gA.mo (fun x k h => Or.inl (wF_mo (Nat.zero_le _) h))).tr y3⟩
      · subst hr
        refine ⟨M3, 0, fun u => cE u _ (fun _ => ?_) (fun z => absurd hw z), fun u => mE u _ (fun _ => ?_) (fun z => absurd hw z), Or.inr ⟨rfl, hf, (g2.mo (fun x k h => Or.inl (wF_mo (Nat.zero_le _) h))).tr gF⟩⟩
        · refine go_ald_6_1 rfl ?_
          refine go_call1 rfl (c1 u) (Nat.le_of_ble_eq_true rfl) (qb_qv rfl (by decide) (by decide)) ?_
          refine go_ald_6_0 rfl ?_
          refine go_ald_6_1 rfl ?_
          refine go_ald_6_2 rfl ?_
          refine go_ild_6_3 rfl ?_
          refine go_call4 rfl (n1 u) (Nat.le_of_ble_eq_true rfl) (qb_qv rfl (by decide) (by decide)) ?_
          refine go_ifeq rfl (fun e => ?_) (fun e => ?_)
          · refine go_c rfl ?_
            refine go_ist_6_4 rfl rfl ?_
            refine go_inc_6_5 rfl rfl ?_
            refine go_goto rfl ?_
            refine go_ild_6_5 rfl ?_
            refine go_c rfl ?_
            refine go_icge rfl (fun e2 => ?_) (fun e2 => ?_)
            · refine go_ild_6_4 rfl ?_
              exact fin_i rfl rfl rfl
            · refine go_ild_6_4 rfl ?_
              refine go_ifeq rfl (fun e3 => ?_) (fun e3 => ?_)
              · refine go_ild_6_4 rfl ?_
                exact fin_i rfl rfl rfl
              · exact absurd rfl e3
          · exact absurd rfl e
        · refine go_ald_2_0 rfl ?_
          refine go_call1 rfl (m1 u) (Nat.le_of_ble_eq_true rfl) (qb_qv rfl (by decide) (by decide)) ?_
          refine go_ald_2_0 rfl ?_
          refine go_call1 rfl (n2 u) (Nat.le_of_ble_eq_true rfl) (qb_qv rfl (by decide) (by decide)) ?_
          refine go_ifne rfl (fun e => ?_) (fun e => ?_)
          · refine go_c rfl ?_
            exact fin_i rfl rfl rfl
          · exact absurd rfl e
    · have gT : qG (fun x k => x = 192 ∧ k = 44) M (qb_ui M 192 44 (nI (a1 - 1))) := qG.rf.ui ⟨rfl, rfl⟩
      have gU := qj_G (P := fun x k => x = 1000) (Q := fun x k => x = 192 ∧ k = 44) (M := M) (A := M) qG.rf gT
      refine ⟨qj M (qb_ui M 192 44 (nI (a1 - 1))), 1, fun u => cE u _ (fun z => absurd z hw) (fun _ => by rw [qj_j]), fun u => mE u _ (fun z => absurd z hw) (fun _ => by rw [qj_J]), Or.inl ⟨rfl, ⟨p, hp0, rC_j hC, rM_j (hM.mv gT (fun x k h => by omega))⟩, ⟨a1, o1, ⟨⟨hS.1.1, (gT.i (by omega)).trans hS.1.2⟩, ⟨hS.2.1.1, (gT.i (by omega)).trans hS.2.1.2⟩, (gT.i (by omega)).trans hS.2.2⟩, by omega, ho, ha1, ?_, ?_⟩, gU.mo (fun x k h => by unfold wF; omega)⟩⟩
      · show (qb_ui M 192 44 (nI (a1 - 1))).1 192 44 = _
        exact qb_ui_1s
      · exact wE_mv (M := M) (N := qj M (qb_ui M 192 44 (nI (a1 - 1)))) (a := a1) (fun i hi => ⟨gU.p (by omega), gU.i (by omega), gU.i (by omega)⟩) (fun j hj => gU.i (by omega)) _ a a1 (Nat.le_refl _) hE
theorem any_of (d d' : Nat) (c : Nat × Nat) {M : qb_M} {n l : Nat} {b : Nat → Nat} {ns W a o p : Nat} (hI : wI n l b ns M a o W p) (next : ∀ M1 p1 a1 o1, p ≤ p1 → wI n l b ns M1 a1 o1 W p1 → allS (d + 3) (d' + 3) c n l b p1 ns M1 a1 o1 W) : anyS (d + 4) (d' + 4) c n l b p ns M a o W := by
  obtain ⟨hC, hM, hS, ho, ha2, hW, hN⟩ := id hI
  obtain ⟨M1, r, o1', o2', o3'⟩ := next M p a o (Nat.le_refl _) hI
  rcases o3' with ⟨hr, ⟨p', hp', hC3, hM3⟩, ⟨a', o', hS', w1, w2, w3, w4, w5⟩, gF⟩ | ⟨hr, hf, gF⟩
  · subst hr
    obtain ⟨M', r', z1, z2, z3⟩ := any_loop d d' c (ns := ns) (a := a) (o := o) (p0 := p) ha2 (fun M1 p1 a1 o1 h => next M1 p1 a1 o1 (by omega)) (n - p' + 1) M1 p' 0 a' o' (by omega) hp' ⟨hC3, hM3, hS', w2, by omega, hW, wN_mv hN gF (fun x k h => wF_no h)⟩ (by omega) w3 w5
    refine ⟨M', r', fun u => ?_, fun u => ?_, ?_⟩
    · refine (en_141 (d + 3) 150 65 67 (nI (W + 1)) _).trans ?_
      refine go_ald_6_0 rfl ?_
      refine go_ald_6_1 rfl ?_
      refine go_ald_6_2 rfl ?_
      refine go_ild_6_3 rfl ?_
      refine go_call4 rfl (o1' u) (Nat.le_of_ble_eq_true rfl) (qb_qv rfl (by decide) (by decide)) ?_
      refine go_ist_6_4 rfl rfl ?_
      refine go_c rfl ?_
      refine go_ist_6_5 rfl rfl ?_
      exact z1 u
    · refine (en_279 (d' + 3) 192 _).trans ?_
      refine go_ald_2_0 rfl ?_
      refine go_call1 rfl (o2' u) (Nat.le_of_ble_eq_true rfl) (qb_qv rfl (by decide) (by decide)) ?_
      refine go_ifne rfl (fun e => ?_) (fun e => ?_)
      · exact absurd e (by decide)
      · refine go_ald_2_0 rfl ?_
        refine go_geti rfl ⟨_, rfl, rfl, by decide, by decide⟩ ?_
        rw [show (qj u M1).1 192 44 = nI (a' - 1) from w4]
        refine go_ist_2_1 rfl rfl ?_
        exact z2 u
    · rcases z3 with ⟨y1, y2, y3, y4⟩ | ⟨y1, y2, y3⟩
      · exact Or.inl ⟨y1, y2, y3, gF.tr y4⟩
      · exact Or.inr ⟨y1, y2, (gF.mo (fun x k h => Or.inl (wF_mo (Nat.zero_le _) h))).tr y3⟩
  · subst hr
    refine ⟨M1, 0, fun u => ?_, fun u => ?_, Or.inr ⟨rfl, hf, gF⟩⟩
    · refine (en_141 (d + 3) 150 65 67 (nI (W + 1)) _).trans ?_
      refine go_ald_6_0 rfl ?_
      refine go_ald_6_1 rfl ?_
      refine go_ald_6_2 rfl ?_
      refine go_ild_6_3 rfl ?_
      refine go_call4 rfl (o1' u) (Nat.le_of_ble_eq_true rfl) (qb_qv rfl (by decide) (by decide)) ?_
      refine go_ist_6_4 rfl rfl ?_
      refine go_c rfl ?_
      refine go_ist_6_5 rfl rfl ?_
      refine go_ild_6_5 rfl ?_
      refine go_c rfl ?_
      refine go_icge rfl (fun e2 => ?_) (fun e2 => ?_)
      · exact absurd e2 (by decide)
      · refine go_ild_6_4 rfl ?_
        refine go_ifeq rfl (fun e3 => ?_) (fun e3 => ?_)
        · refine go_ild_6_4 rfl ?_
          exact fin_i rfl rfl rfl
        · exact absurd rfl e3
    · refine (en_279 (d' + 3) 192 _).trans ?_
      refine go_ald_2_0 rfl ?_
      refine go_call1 rfl (o2' u) (Nat.le_of_ble_eq_true rfl) (qb_qv rfl (by decide) (by decide)) ?_
      refine go_ifne rfl (fun e => ?_) (fun e => ?_)
      · refine go_c rfl ?_
        exact fin_i rfl rfl rfl
      · exact absurd rfl e
