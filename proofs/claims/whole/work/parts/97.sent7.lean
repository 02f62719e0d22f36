/-! a sentence: the reference's search for a one -/
theorem pm_seek (d : Nat) (c : Nat × Nat) {B : qb_M} {n l : Nat} {b : Nat → Nat} {p : Nat} (hM : rM B n l b p) (u : qb_M) (l1 : Int32) (y : Nat) (hy : 14 ≤ y ∧ y ≤ 23) (hno : ∀ i, 14 ≤ i → i < y → ¬ wA n l b p i) (hyes : y = 23 ∨ wA n l b p y) (R : Option (Option Value × qa_H)) (hR : qa_lm (qe (d + 3)) (qa_cd qc_281) (30, [.ref 192, .int l1, .int (nI y), .retAddr 0], [], (qb_hp (qj u B), 149, c)) = R) : qa_lm (qe (d + 3)) (qa_cd qc_281) (10, [.ref 192, .int l1, .int (nI 14), .retAddr 0], [], (qb_hp (qj u B), 149, c)) = R := by
  have loop : ∀ m i, i + m = y → 14 ≤ i → qa_lm (qe (d + 3)) (qa_cd qc_281) (10, [.ref 192, .int l1, .int (nI i), .retAddr 0], [], (qb_hp (qj u B), 149, c)) = R := by
    intro m
    induction m with
    | zero =>
      intro i hi h14
      have hi : i = y := by omega
      subst hi
      refine go_ild_4_2 rfl ?_
      refine go_c rfl ?_
      refine go_icgt rfl (fun e => ?_) (fun e => ?_)
      · exact hR
      · rcases hyes with h | h
        · exact absurd (by rw [h]; decide) e
        · have hlt : i < 23 := by
            have : ¬ i = 23 := fun z => e (by rw [z]; decide)
            omega
          have hw := pm_isWord d c hM i hlt u
          refine go_ald_4_0 rfl ?_
          refine go_ild_4_2 rfl ?_
          refine go_call2 rfl (hw) (Nat.le_of_ble_eq_true rfl) (qb_qv rfl (by decide) (by decide)) ?_
          refine go_ifne rfl (fun e2 => ?_) (fun e2 => ?_)
          · exact absurd h (qB_0.mp e2)
          · exact hR
    | succ m ih =>
      intro i hi h14
      have ih := ih (i + 1) (by omega) (by omega)
      have hw := pm_isWord d c hM i (by omega) u
      refine go_ild_4_2 rfl ?_
      refine go_c rfl ?_
      refine go_icgt rfl (fun e => ?_) (fun e => ?_)
      · exact absurd e (by rw [show (22 : Int32) = nI 22 from rfl]; exact fun z => absurd ((nI_ltI (by omega) (by omega)).mp z) (by omega))
      · refine go_ald_4_0 rfl ?_
        refine go_ild_4_2 rfl ?_
        refine go_call2 rfl (hw) (Nat.le_of_ble_eq_true rfl) (qb_qv rfl (by decide) (by decide)) ?_
        refine go_ifne rfl (fun e2 => ?_) (fun e2 => ?_)
        · refine go_inc_4_2 rfl rfl ?_
          refine go_goto rfl ?_
          rw [nI_1]
          exact ih
        · exact absurd (Classical.byContradiction fun z => e2 (qB_f z)) (hno i h14 (by omega))
  exact loop (y - 14) 14 (by omega) (by decide)
theorem wA_one {n l : Nat} {b : Nat → Nat} {p y z : Nat} (h1 : 14 ≤ y ∧ y ≤ 22) (h2 : 14 ≤ z ∧ z ≤ 22) (hy : wA n l b p y) (hz : wA n l b p z) : y = z := by
  have e := Option.some.inj (hy.2.symm.trans hz.2)
  have : ∀ y : Fin 23, ∀ z : Fin 23, 14 ≤ y.1 → 14 ≤ z.1 → tx_pm y.1 = tx_pm z.1 → y.1 = z.1 := by decide
  exact this ⟨y, by omega⟩ ⟨z, by omega⟩ h1.1 h2.1 e
/-- the reference has found a one: what it does next -/
theorem pm_said (d : Nat) (c : Nat × Nat) {B : qb_M} {n l : Nat} {b : Nat → Nat} {p : Nat} (hM : rM B n l b p) (u : qb_M) (g : tx_k n l b p = 40 ∨ ∃ y, 14 ≤ y ∧ y ≤ 22 ∧ wA n l b p y) : ∃ y : Nat, (tx_k n l b p = 40 ∧ y = 23 ∨ 14 ≤ y ∧ y ≤ 22 ∧ wA n l b p y) ∧ ∀ R, qa_lm (qe (d + 3)) (qa_cd qc_281) (46, [.ref 192, .int (qB (tx_k n l b p = 40)), .int (nI y), .retAddr 0], [], (qb_hp (qj u B), 149, c)) = R → qe (d + 4) 281 [.ref 192] (qb_hp (qj u B), 149, c) = R := by
  have hs := pm_isSign (d + 2) c hM 40 (by decide) u
  by_cases h40 : tx_k n l b p = 40
  · refine ⟨23, Or.inl ⟨h40, rfl⟩, fun R hR => ?_⟩
    refine (en_281 (d + 3) 192 _).trans ?_
    refine go_ald_4_0 rfl ?_
    refine go_c rfl ?_
    refine go_call2 rfl (hs) (Nat.le_of_ble_eq_true rfl) (qb_qv rfl (by decide) (by decide)) ?_
    refine go_ist_4_1 rfl rfl ?_
    refine go_c rfl ?_
    refine go_ist_4_2 rfl rfl ?_
    refine pm_seek d c hM u _ 23 (by decide) (fun i _ _ h => by have := h.1; omega) (Or.inl rfl) R ?_
    refine go_ild_4_1 rfl ?_
    rw [qB_t h40] at hR ⊢
    refine go_ifne rfl (fun e => ?_) (fun e => ?_)
    · exact absurd e (by decide)
    · exact hR
  · obtain ⟨y, y1, y2, h⟩ := g.resolve_left h40
    refine ⟨y, Or.inr ⟨y1, y2, h⟩, fun R hR => ?_⟩
    refine (en_281 (d + 3) 192 _).trans ?_
    refine go_ald_4_0 rfl ?_
    refine go_c rfl ?_
    refine go_call2 rfl (hs) (Nat.le_of_ble_eq_true rfl) (qb_qv rfl (by decide) (by decide)) ?_
    refine go_ist_4_1 rfl rfl ?_
    refine go_c rfl ?_
    refine go_ist_4_2 rfl rfl ?_
    refine pm_seek d c hM u _ y (by omega) (fun i i1 i2 hi => by have := wA_one (by omega) ⟨y1, y2⟩ hi h; omega) (Or.inr h) R ?_
    refine go_ild_4_1 rfl ?_
    rw [qB_f h40] at hR ⊢
    refine go_ifne rfl (fun e => ?_) (fun e => ?_)
    · refine go_ild_4_2 rfl ?_
      refine go_c rfl ?_
      refine go_icle rfl (fun e2 => ?_) (fun e2 => ?_)
      · exact hR
      · exact absurd (by rw [show (22 : Int32) = nI 22 from rfl]; exact (nI_leI (by omega) (by omega)).mpr y2) e2
    · exact absurd rfl e
