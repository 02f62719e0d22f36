/-! a sentence, read by both: is a one ahead -/
abbrev wA (n l : Nat) (b : Nat → Nat) (p y : Nat) : Prop := tx_k n l b p = 2 ∧ tx_wd (tx_l n b p) = some (tx_pm y)
theorem sp_isCount (d : Nat) (s : qb_M) (c : Nat × Nat) (w : Nat) (hw : w < 23) : qe (d + 1) 145 [.ref w] (qb_hp (s), 149, c) = some (some (.int (qB (w = 20 ∨ w = 21 ∨ w = 22))), (qb_hp (s), 149, c)) := by
  have hid : qa_id (.ref w) = some (some w) := if_pos hw
  refine (en_145 d w _).trans ?_
  refine go_ald_1_0 rfl ?_
  refine go_c rfl ?_
  refine go_aceq (r := some w) (q := some 20) rfl hid rfl (fun e => ?_) (fun e => ?_)
  · rw [qB_t (Or.inl (Option.some.inj e))]
    refine go_c rfl ?_
    refine go_goto rfl ?_
    exact fin_i rfl rfl rfl
  · refine go_ald_1_0 rfl ?_
    refine go_c rfl ?_
    refine go_aceq (r := some w) (q := some 21) rfl hid rfl (fun e2 => ?_) (fun e2 => ?_)
    · rw [qB_t (Or.inr (Or.inl (Option.some.inj e2)))]
      refine go_c rfl ?_
      refine go_goto rfl ?_
      exact fin_i rfl rfl rfl
    · refine go_ald_1_0 rfl ?_
      refine go_c rfl ?_
      refine go_acne (r := some w) (q := some 22) rfl hid rfl (fun e3 => ?_) (fun e3 => ?_)
      · rw [qB_t (Or.inr (Or.inr (Option.some.inj e3)))]
        refine go_c rfl ?_
        refine go_goto rfl ?_
        exact fin_i rfl rfl rfl
      · rw [qB_f (fun z => z.elim (fun z => e (by rw [z])) (fun z => z.elim (fun z => e2 (by rw [z])) (fun z => e3 (by rw [z]))))]
        refine go_c rfl ?_
        exact fin_i rfl rfl rfl
theorem en_145n (d : Nat) (h : qa_H) : qe (d + 1) 145 [.null] h = qa_lm (qe d) (qa_cd qc_145) (0, [.null], [], h) := qe_en ⟨by decide, Nat.le_of_ble_eq_true rfl⟩
theorem pc_ahead (d : Nat) (c : Nat × Nat) {A : qb_M} {n l : Nat} {b : Nat → Nat} {p : Nat} (hC : rC A n l b p) (r : Int32) (h1 : (tx_k n l b p = 40 ∨ ∃ y, 14 ≤ y ∧ y ≤ 22 ∧ wA n l b p y) → r = 1) (h0 : ¬ (tx_k n l b p = 40 ∨ ∃ y, 14 ≤ y ∧ y ≤ 22 ∧ wA n l b p y) → r = 0) (u : qb_M) : qe (d + 2) 144 [.ref 65] (qb_hp (qj A u), 149, c) = some (some (.int (r)), (qb_hp (qj A u), 149, c)) := by
  have q := fun i hi => pc_isAt d c hC i hi u
  have yes : (tx_k n l b p = 40 ∨ ∃ y, 14 ≤ y ∧ y ≤ 22 ∧ wA n l b p y) → qa_lm (qe (d + 1)) (qa_cd qc_144) (87, [.ref 65], [], (qb_hp (qj A u), 149, c)) = some (some (.int (r)), (qb_hp (qj A u), 149, c)) := fun z => by
    rw [h1 z]
    refine go_c rfl ?_
    refine go_goto rfl ?_
    exact fin_i rfl rfl rfl
  have no : ¬ (tx_k n l b p = 40 ∨ ∃ y, 14 ≤ y ∧ y ≤ 22 ∧ wA n l b p y) → qa_lm (qe (d + 1)) (qa_cd qc_144) (91, [.ref 65], [], (qb_hp (qj A u), 149, c)) = some (some (.int (r)), (qb_hp (qj A u), 149, c)) := fun z => by
    rw [h0 z]
    refine go_c rfl ?_
    exact fin_i rfl rfl rfl
  have at1 : ∀ i y, 14 ≤ y → y ≤ 22 → tx_pm y = i → ¬ qB (tx_k n l b p = 2 ∧ tx_wd (tx_l n b p) = some i) = 0 → (tx_k n l b p = 40 ∨ ∃ y, 14 ≤ y ∧ y ≤ 22 ∧ wA n l b p y) := fun i y y1 y2 hy e => by
    have z := Classical.byContradiction fun z => e (qB_f z)
    exact Or.inr ⟨y, y1, y2, z.1, by rw [hy]; exact z.2⟩
  have hk9 := tx_k9 (n := n) (l := l) (b := b) (p := p)
  refine (en_144 (d + 1) 65 _).trans ?_
  refine go_ald_1_0 rfl ?_
  refine go_geti rfl ⟨_, rfl, rfl, by decide, by decide⟩ ?_
  refine go_c rfl ?_
  rw [show (qj A u).1 65 7 = nI (tx_k n l b p) from hC.2.2.2.2.1]
  refine go_iceq rfl (fun e => ?_) (fun e => ?_)
  · exact yes (Or.inl ((nI_eq (b := 40) hk9 (by decide)).mp e))
  · have k40 : tx_k n l b p ≠ 40 := fun z => e (by rw [z]; rfl)
    refine go_ald_1_0 rfl ?_
    refine go_c rfl ?_
    refine go_call2 rfl (q 15 (by decide)) (Nat.le_of_ble_eq_true rfl) (qb_qv rfl (by decide) (by decide)) ?_
    refine go_ifne rfl (fun e1 => ?_) (fun e1 => ?_)
    · refine go_ald_1_0 rfl ?_
      refine go_c rfl ?_
      refine go_call2 rfl (q 2 (by decide)) (Nat.le_of_ble_eq_true rfl) (qb_qv rfl (by decide) (by decide)) ?_
      refine go_ifne rfl (fun e2 => ?_) (fun e2 => ?_)
      · refine go_ald_1_0 rfl ?_
        refine go_c rfl ?_
        refine go_call2 rfl (q 16 (by decide)) (Nat.le_of_ble_eq_true rfl) (qb_qv rfl (by decide) (by decide)) ?_
        refine go_ifne rfl (fun e3 => ?_) (fun e3 => ?_)
        · refine go_ald_1_0 rfl ?_
          refine go_c rfl ?_
          refine go_call2 rfl (q 17 (by decide)) (Nat.le_of_ble_eq_true rfl) (qb_qv rfl (by decide) (by decide)) ?_
          refine go_ifne rfl (fun e4 => ?_) (fun e4 => ?_)
          · refine go_ald_1_0 rfl ?_
            refine go_c rfl ?_
            refine go_call2 rfl (q 18 (by decide)) (Nat.le_of_ble_eq_true rfl) (qb_qv rfl (by decide) (by decide)) ?_
            refine go_ifne rfl (fun e5 => ?_) (fun e5 => ?_)
            · refine go_ald_1_0 rfl ?_
              refine go_c rfl ?_
              refine go_call2 rfl (q 19 (by decide)) (Nat.le_of_ble_eq_true rfl) (qb_qv rfl (by decide) (by decide)) ?_
              refine go_ifne rfl (fun e6 => ?_) (fun e6 => ?_)
              · refine go_ald_1_0 rfl ?_
                refine go_geti rfl ⟨_, rfl, rfl, by decide, by decide⟩ ?_
                refine go_c rfl ?_
                rw [show (qj A u).1 65 7 = nI (tx_k n l b p) from hC.2.2.2.2.1]
                have only : ∀ y, 14 ≤ y → y ≤ 22 → wA n l b p y → y = 20 ∨ y = 21 ∨ y = 22 := fun y y1 y2 h => by
                  have hh : y = 14 ∨ y = 15 ∨ y = 16 ∨ y = 17 ∨ y = 18 ∨ y = 19 ∨ (y = 20 ∨ y = 21 ∨ y = 22) := by omega
                  rcases hh with z | z | z | z | z | z | z
                  · subst z; exact absurd h (qB_0.mp e1)
                  · subst z; exact absurd h (qB_0.mp e2)
                  · subst z; exact absurd h (qB_0.mp e3)
                  · subst z; exact absurd h (qB_0.mp e4)
                  · subst z; exact absurd h (qB_0.mp e5)
                  · subst z; exact absurd h (qB_0.mp e6)
                  · exact z
                refine go_icne rfl (fun e7 => ?_) (fun e7 => ?_)
                · have hk2 := (nI_eq (b := 2) hk9 (by decide)).mp e7
                  have hwd := (hC.2.2.2.2.2.1 hk2).2
                  refine go_ald_1_0 rfl ?_
                  refine go_getp rfl ⟨_, rfl, rfl, by decide, by decide⟩ ?_
                  rw [show (qj A u).2.2 65 10 = tx_wd (tx_l n b p) from hwd]
                  cases hw : tx_wd (tx_l n b p) with
                  | none =>
                    have hnull : qe (d + 1) 145 [.null] (qb_hp (qj A u), 149, c) = some (some (.int (0)), (qb_hp (qj A u), 149, c)) := by
                      refine (en_145n d _).trans ?_
                      refine go_aldN_1_0 rfl ?_
                      refine go_c rfl ?_
                      refine go_aceq (r := none) (q := some 20) rfl rfl rfl (fun e => absurd e (by decide)) (fun e => ?_)
                      refine go_aldN_1_0 rfl ?_
                      refine go_c rfl ?_
                      refine go_aceq (r := none) (q := some 21) rfl rfl rfl (fun e => absurd e (by decide)) (fun e => ?_)
                      refine go_aldN_1_0 rfl ?_
                      refine go_c rfl ?_
                      refine go_acne (r := none) (q := some 22) rfl rfl rfl (fun e => absurd e (by decide)) (fun e => ?_)
                      refine go_c rfl ?_
                      exact fin_i rfl rfl rfl
                    refine go_call1 rfl (hnull) (Nat.le_of_ble_eq_true rfl) rfl ?_
                    refine go_ifeq rfl (fun e8 => ?_) (fun e8 => ?_)
                    · exact no (fun z => z.elim k40 (fun ⟨y, _, _, h⟩ => by have h2 := h.2; rw [hw] at h2; cases h2))
                    · exact absurd rfl e8
                  | some w =>
                    have hw23 := tx_wd_lt hw
                    refine go_call1 rfl (sp_isCount d (qj A u) c w hw23) (Nat.le_of_ble_eq_true rfl) rfl ?_
                    refine go_ifeq rfl (fun e8 => ?_) (fun e8 => ?_)
                    · refine no (fun z => z.elim k40 (fun ⟨y, y1, y2, h⟩ => ?_))
                      have := only y y1 y2 h
                      have h2 := Option.some.inj (hw.symm.trans h.2)
                      rcases this with z | z | z <;> subst z
                      · exact qB_0.mp e8 (Or.inl h2)
                      · exact qB_0.mp e8 (Or.inr (Or.inl h2))
                      · exact qB_0.mp e8 (Or.inr (Or.inr h2))
                    · have z := Classical.byContradiction fun z => e8 (qB_f z)
                      refine yes (Or.inr ⟨w, by omega, by omega, hk2, hw.trans ?_⟩)
                      rcases z with z | z | z <;> subst z <;> rfl
                · exact no (fun z => z.elim k40 (fun ⟨y, _, _, h⟩ => e7 (by rw [h.1]; rfl)))
              · exact yes (at1 19 19 (by decide) (by decide) rfl e6)
            · exact yes (at1 18 18 (by decide) (by decide) rfl e5)
          · exact yes (at1 17 17 (by decide) (by decide) rfl e4)
        · exact yes (at1 16 16 (by decide) (by decide) rfl e3)
      · exact yes (at1 2 15 (by decide) (by decide) rfl e2)
    · exact yes (at1 15 14 (by decide) (by decide) rfl e1)
