/-! a sentence: a one that is a word alone -/
theorem one_plain (d d' : Nat) (c : Nat × Nat) {M : qb_M} {n l : Nat} {b : Nat → Nat} {p : Nat} (hC : rC M n l b p) (hM : rM M n l b p) {a o W ns y w : Nat} (hS : wS M a o W) (ho : o < 20) (hW : W < 8) (ha : a < 40) (hy : y = 15 ∧ w = 2 ∨ y = 16 ∧ w = 16 ∨ y = 17 ∧ w = 17) (hA : wA n l b p y) : oneS (d + 4) (d' + 4) c n l b p ns M a o W := by
  have hx : wX n l b p := Or.inr ⟨y, by omega, by omega, hA⟩
  have hk2 := hA.1
  have hwd : M.2.2 65 10 = some w := by
    rw [(hC.2.2.2.2.2.1 hk2).2, hA.2]
    rcases hy with ⟨h1, h2⟩ | ⟨h1, h2⟩ | ⟨h1, h2⟩ <;> subst h1 <;> subst h2 <;> rfl
  obtain ⟨A1, a1, a2, a3, a4⟩ := pc_one d c hC hS hx ho hW
  obtain ⟨B1, b1, b2, b3, b4, b5⟩ := pm_one d' c hM hS hx ho hW
  have hid : qa_id (.ref w) = some (some w) := if_pos (show w < 23 by omega)
  have e1 := tx_e_lt hC.1 (by omega) (by omega : tx_k n l b p ≠ 1)
  obtain ⟨A', B', q1, q2, q3, q4, q5, q6, q7, q8, q9, q10⟩ := sn_leaf (d + 2) (d' + 2) c a1 b1 (a := a) (ns := ns) (w := w) (sg := 0) (v := 0) (x1 := nI (50 + y)) (x2 := 0) (x3 := 0) (x4 := 0) ha ((a3.i (by omega)).trans hS.1.1) ((b4.i (by omega)).trans hS.1.2) (Or.inl (by
    rcases hy with ⟨h1, h2⟩ | ⟨h1, h2⟩ | ⟨h1, h2⟩ <;> subst h1 <;> subst h2
    · exact Or.inl ⟨rfl, rfl⟩
    · exact Or.inr (Or.inl ⟨rfl, rfl⟩)
    · exact Or.inr (Or.inr ⟨rfl, rfl⟩)))
  have h43 : (qb_ui B' 192 44 (nI a)).1 192 43 = nI (W + 1) := (q10.i (by omega)).trans b3
  have gA : qG (wF a) M A' := (a3.mo (fun x k h => by unfold wF; omega)).tr (q9.mo (fun x k h => by unfold wF; omega))
  have gB : qG (wF a) M (qb_ui (qb_ui B' 192 44 (nI a)) 192 43 (nI W)) := ((b4.mo (fun x k h => by unfold wF; omega)).tr (q10.mo (fun x k h => by unfold wF; omega))).ui (by unfold wF; omega)
  refine bo_good (A := A') (B := qb_ui (qb_ui B' 192 44 (nI a)) 192 43 (nI W)) (p' := tx_e n l b p) (P1 := wF a) (Q1 := wF a) (fun u => a4 u _ ?_) (fun u => ?_) e1 q3 (q4.mv (P := fun x k => x = 192 ∧ k = 43) (qG.rf.ui ⟨rfl, rfl⟩) (fun x k h => by omega)) ?_ gA gB (fun x j h => h.elim (fun z => z.2) (fun z => z.2))
  · rw [hwd]
    refine go_ald_5_4 rfl ?_
    refine go_ifnonnull_r rfl ?_
    have hcn := sp_isCount (d + 2) (qj A1 u) c w (by omega)
    rw [qB_f (by omega)] at hcn
    refine go_ald_5_4 rfl ?_
    refine go_c rfl ?_
    refine go_acne (r := some w) (q := some 15) rfl hid rfl (fun e => absurd (Option.some.inj e) (by omega)) (fun e => ?_)
    refine go_ald_5_4 rfl ?_
    refine go_c rfl ?_
    refine go_acne (r := some w) (q := some 18) rfl hid rfl (fun e => absurd (Option.some.inj e) (by omega)) (fun e => ?_)
    refine go_ald_5_4 rfl ?_
    refine go_c rfl ?_
    refine go_acne (r := some w) (q := some 19) rfl hid rfl (fun e => absurd (Option.some.inj e) (by omega)) (fun e => ?_)
    refine go_ald_5_4 rfl ?_
    refine go_call1 rfl (hcn) (Nat.le_of_ble_eq_true rfl) rfl ?_
    refine go_ifeq rfl (fun e2 => ?_) (fun e2 => ?_)
    · refine go_ald_5_0 rfl ?_
      refine go_ald_5_4 rfl ?_
      refine go_c rfl ?_
      refine go_c rfl ?_
      refine go_call4 rfl (q1 u) (Nat.le_of_ble_eq_true rfl) (qb_qv rfl (by decide) (by decide)) ?_
      exact fin_i rfl rfl rfl
    · exact absurd rfl e2
  · obtain ⟨y', hy', hgo⟩ := b5 u
    have hyy : y' = y := by
      rcases hy' with ⟨z, _⟩ | ⟨z1, z2, z3⟩
      · omega
      · exact wA_one ⟨z1, z2⟩ (by omega) z3 hA
    subst hyy
    refine hgo _ ?_
    rw [qB_f (by omega)]
    refine go_ild_4_1 rfl ?_
    refine go_ifeq rfl (fun e2 => ?_) (fun e2 => ?_)
    · refine go_ild_4_2 rfl ?_
      refine go_c rfl ?_
      refine go_icne rfl (fun e3 => ?_) (fun e3 => ?_)
      · exact absurd ((nI_eq (b := 14) (by omega) (by decide)).mp e3) (by omega)
      · refine go_ild_4_2 rfl ?_
        refine go_c rfl ?_
        refine go_icge rfl (fun e4 => ?_) (fun e4 => ?_)
        · exact absurd e4 (nI_ge (b := 18) (by omega) (by decide))
        · refine go_ald_4_0 rfl ?_
          refine go_ald_4_0 rfl ?_
          refine go_c rfl ?_
          refine go_ild_4_2 rfl ?_
          refine go_iadd rfl ?_
          rw [show (50 : Int32) = nI 50 from rfl, nI_add]
          refine go_c rfl ?_
          refine go_c rfl ?_
          refine go_c rfl ?_
          refine go_call5 rfl (q2 u) (Nat.le_of_ble_eq_true rfl) (qb_qv rfl (by decide) (by decide)) ?_
          refine go_puti rfl ⟨_, rfl, rfl, by decide, by decide⟩ rfl rfl ?_
          rw [qj_UI (by decide)]
          refine go_goto rfl ?_
          refine go_ald_4_0 rfl ?_
          refine go_dup_ref rfl ?_
          refine go_geti rfl ⟨_, rfl, rfl, by decide, by decide⟩ ?_
          rw [show (qj u (qb_ui B' 192 44 (nI a))).1 192 43 = nI (W + 1) from h43]
          refine go_c rfl ?_
          refine go_isub rfl ?_
          rw [nI_p1]
          refine go_puti rfl ⟨_, rfl, rfl, by decide, by decide⟩ rfl rfl ?_
          rw [qj_UI (by decide)]
          refine go_ild_4_3 rfl ?_
          exact fin_i rfl rfl rfl
    · exact absurd rfl e2
  · refine ⟨a + 1, o + 1, ⟨⟨q6, ?_⟩, ⟨(q9.i (by omega)).trans a2, ?_⟩, ?_⟩, by omega, by omega, by omega, ?_, ?_⟩
    · show (qb_ui (qb_ui B' 192 44 (nI a)) 192 43 (nI W)).1 192 41 = _
      exact (qb_ui_1n (by omega)).trans q7
    · show (qb_ui (qb_ui B' 192 44 (nI a)) 192 43 (nI W)).1 192 42 = _
      exact (qb_ui_1n (by omega)).trans ((q10.i (by omega)).trans b2)
    · show (qb_ui (qb_ui B' 192 44 (nI a)) 192 43 (nI W)).1 192 43 = _
      exact qb_ui_1s
    · show (qb_ui (qb_ui B' 192 44 (nI a)) 192 43 (nI W)).1 192 44 = nI (a + 1 - 1)
      exact (qb_ui_1n (by omega)).trans q8
    · rw [show a + 1 - a = 0 + 1 by omega]
      refine ⟨by omega, by omega, Or.inl ⟨rfl, wL_mv q5 ⟨rfl, rfl, rfl⟩ (fun j _ _ => ?_)⟩⟩
      show (qb_ui (qb_ui B' 192 44 (nI a)) 192 43 (nI W)).1 211 j = (qb_ui B' 192 44 (nI a)).1 211 j
      exact qb_ui_1n (by omega)
