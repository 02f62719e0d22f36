/-! a line of a book, read by both -/
def kQ (L x k : Nat) : Prop := x = 65 ∧ 5 ≤ k ∧ k ≤ 10 ∨ 134 ≤ x ∧ x ≤ 138 ∧ k = L ∨ x = 192 ∧ (5 ≤ k ∧ k ≤ 9 ∨ k = 12 ∨ k = 13) ∨ x = 209 ∧ 5 * L ≤ k ∧ k ≤ 5 * L + 4
theorem kQ_F {L x k : Nat} (h : kQ L x k) : kF x k := by unfold kQ at h; unfold kF; omega
def kR (M : qb_M) (i nm : Nat) : Prop := (M.1 134 i = 0 ∧ M.1 209 (5 * i) = 0 ∧ ∃ x y m h : Nat, (x ≤ 7 ∧ y ≤ 7 ∧ 1 ≤ m ∧ m ≤ 30 ∧ h ≤ 1) ∧ (M.1 135 i = nI x ∧ M.1 136 i = nI y ∧ M.1 137 i = nI m ∧ M.1 138 i = nI h) ∧ M.1 209 (5 * i + 1) = nI x ∧ M.1 209 (5 * i + 2) = nI y ∧ M.1 209 (5 * i + 3) = nI m ∧ M.1 209 (5 * i + 4) = nI h) ∨ (M.1 134 i = 1 ∧ M.1 209 (5 * i) = 1 ∧ ∃ x : Nat, x ≤ 7 ∧ M.1 135 i = nI x ∧ M.1 209 (5 * i + 1) = nI x) ∨ (∃ v x : Nat, (v = 2 ∨ v = 3 ∨ v = 4) ∧ M.1 134 i = nI v ∧ M.1 209 (5 * i) = nI v ∧ x < nm ∧ M.1 135 i = nI x ∧ M.1 209 (5 * i + 1) = nI x) ∨ (M.1 134 i = 5 ∧ M.1 209 (5 * i) = 5 ∧ ∃ x : Nat, 1 ≤ x ∧ x ≤ 60 ∧ M.1 137 i = nI x ∧ M.1 209 (5 * i + 1) = nI x)
def kZ (d d' : Nat) (c : Nat × Nat) (M : qb_M) (n l : Nat) (b : Nat → Nat) (p L nm : Nat) : Prop := ∃ (M' : qb_M) (r : Int32), (∀ u, qe (d + 8) 132 [.ref 133, .ref 65, .ref 67] (qb_hp (qj M u), 149, c) = some (some (.int (r)), (qb_hp (qj M' u), 149, c))) ∧ (∀ (u : qb_M) (b0 : Int32) (N : qb_M), (b0 = 0 ∨ b0 = 1) → (r = 1 → qe (d' + 7) 190 [.ref 192] (qb_hp (qj u M'), 149, c) = some (some (.int (b0)), (qb_hp (N), 149, c))) → (r = 0 → b0 = 0 ∧ N = qj u M') → qe (d' + 8) 270 [.ref 192] (qb_hp (qj u M), 149, c) = some (some (.int (b0)), (qb_hp (N), 149, c))) ∧ rO (kQ L) kG n l b p M M' r (fun M' => L < 40 ∧ kR M' L nm)
theorem kZ_fail {d d' : Nat} {c : Nat × Nat} {M A B : qb_M} {n l : Nat} {b : Nat → Nat} {p L nm f pl : Nat} (h1 : ∀ u, qe (d + 8) 132 [.ref 133, .ref 65, .ref 67] (qb_hp (qj M u), 149, c) = some (some (.int (0)), (qb_hp (qj (fC A f pl) u), 149, c))) (h2 : ∀ u, qe (d' + 8) 270 [.ref 192] (qb_hp (qj u M), 149, c) = some (some (.int (0)), (qb_hp (qj u (fM B f pl)), 149, c))) (hpl : pl ≤ 940) (gA : qG kF M A) (gB : qG kF M B) : kZ d d' c M n l b p L nm := by
  refine ⟨qj (fC A f pl) (fM B f pl), 0, fun u => by rw [qj_j]; exact h1 u, fun u b0 N _ _ h0 => ?_, Or.inr ⟨rfl, fR_of hpl, ?_⟩⟩
  · rw [(h0 rfl).1, (h0 rfl).2, qj_J]
    exact h2 u
  · have gA2 : qG (fun x j => kF x j ∨ x = 65 ∧ (j = 2 ∨ j = 3)) M (fC A f pl) := (gA.mo (fun x j h => Or.inl h)).tr (fC_G.mo (fun x j h => Or.inr h))
    have gB2 : qG (fun x j => kF x j ∨ x = 192 ∧ (j = 10 ∨ j = 11)) M (fM B f pl) := (gB.mo (fun x j h => Or.inl h)).tr (fM_G.mo (fun x j h => Or.inr h))
    exact (qj_G gA2 gB2).mo (fun x j h => kG_of h)
theorem kZ_good {d d' : Nat} {c : Nat × Nat} {M A B : qb_M} {n l : Nat} {b : Nat → Nat} {p p' L nm : Nat} (h1 : ∀ u, qe (d + 8) 132 [.ref 133, .ref 65, .ref 67] (qb_hp (qj M u), 149, c) = some (some (.int (1)), (qb_hp (qj A u), 149, c))) (h2 : ∀ (u : qb_M) (b0 : Int32) (N : qb_M), (b0 = 0 ∨ b0 = 1) → qe (d' + 7) 190 [.ref 192] (qb_hp (qj u B), 149, c) = some (some (.int (b0)), (qb_hp (N), 149, c)) → qe (d' + 8) 270 [.ref 192] (qb_hp (qj u M), 149, c) = some (some (.int (b0)), (qb_hp (N), 149, c))) (hp : p < p') (hA : rC A n l b p') (hB : rM B n l b p') (hG : L < 40 ∧ kR (qj A B) L nm) (gA : qG (kQ L) M A) (gB : qG (kQ L) M B) : kZ d d' c M n l b p L nm :=
  ⟨qj A B, 1, fun u => by rw [qj_j]; exact h1 u, fun u b0 N hb h _ => by have := h rfl; rw [qj_J] at this; exact h2 u b0 N hb this, Or.inl ⟨rfl, ⟨p', hp, rC_j hA, rM_j hB⟩, hG, (qj_G gA gB).mo (fun x j h => h.elim (fun z => z.2) (fun z => z.2))⟩⟩
/-- the reference's search for the verb -/
theorem pm_verb (d : Nat) (c : Nat × Nat) {B : qb_M} {n l : Nat} {b : Nat → Nat} {p : Nat} (hM : rM B n l b p) (u : qb_M) (i : Nat) (hi : i < 5) (w : Int32) (R : Option (Option Value × qa_H)) (hR : qa_lm (qe (d + 3)) (qa_cd qc_270) (4, [.ref 192, .int (if kh n l b p i then nI i else w), .int (nI (i + 1)), .retAddr 0], [], (qb_hp (qj u B), 149, c)) = R) : qa_lm (qe (d + 3)) (qa_cd qc_270) (4, [.ref 192, .int w, .int (nI i), .retAddr 0], [], (qb_hp (qj u B), 149, c)) = R := by
  have hk : tx_pm (4 + i) = kw i := by
    have : ∀ v : Fin 5, tx_pm (4 + v.1) = kw v.1 := by decide
    exact this ⟨i, hi⟩
  have hw := pm_isWord d c hM (4 + i) (by omega) u
  rw [hk] at hw
  refine go_ild_4_2 rfl ?_
  refine go_c rfl ?_
  refine go_icgt rfl (fun e => ?_) (fun e => ?_)
  · exact absurd e (by rw [show (4 : Int32) = nI 4 from rfl]; exact fun z => absurd ((nI_ltI (by omega) (by omega)).mp z) (by omega))
  · refine go_ald_4_0 rfl ?_
    refine go_c rfl ?_
    refine go_ild_4_2 rfl ?_
    refine go_iadd rfl ?_
    rw [show (4 : Int32) = nI 4 from rfl, nI_add]
    refine go_call2 rfl (hw) (Nat.le_of_ble_eq_true rfl) (qb_qv rfl (by decide) (by decide)) ?_
    refine go_ifeq rfl (fun e2 => ?_) (fun e2 => ?_)
    · rw [if_neg (qB_0.mp e2)] at hR
      refine go_inc_4_2 rfl rfl ?_
      refine go_goto rfl ?_
      rw [nI_1]
      exact hR
    · rw [if_pos (Classical.byContradiction fun z => e2 (qB_f z))] at hR
      refine go_ild_4_2 rfl ?_
      refine go_ist_4_1 rfl rfl ?_
      refine go_inc_4_2 rfl rfl ?_
      refine go_goto rfl ?_
      rw [nI_1]
      exact hR
theorem pm_verbs (d : Nat) (c : Nat × Nat) {B : qb_M} {n l : Nat} {b : Nat → Nat} {p : Nat} (hM : rM B n l b p) (u : qb_M) (v : Nat) (hv : v ≤ 5) (hw : ∀ i, i < 5 → (kh n l b p i ↔ i = v)) (R : Option (Option Value × qa_H)) (hR : qa_lm (qe (d + 3)) (qa_cd qc_270) (27, [.ref 192, .int (nI v), .int (nI 5), .retAddr 0], [], (qb_hp (qj u B), 149, c)) = R) : qe (d + 4) 270 [.ref 192] (qb_hp (qj u B), 149, c) = R := by
  have st : ∀ i, i < 5 → qa_lm (qe (d + 3)) (qa_cd qc_270) (4, [.ref 192, .int (nI (if v < i + 1 then v else 5)), .int (nI (i + 1)), .retAddr 0], [], (qb_hp (qj u B), 149, c)) = R → qa_lm (qe (d + 3)) (qa_cd qc_270) (4, [.ref 192, .int (nI (if v < i then v else 5)), .int (nI i), .retAddr 0], [], (qb_hp (qj u B), 149, c)) = R := fun i hi h => pm_verb d c hM u i hi _ R (by
    rw [show (if kh n l b p i then nI i else nI (if v < i then v else 5)) = nI (if v < i + 1 then v else 5) from by
      by_cases z : i = v
      · rw [if_pos ((hw i hi).mpr z), if_pos (by omega), z]
      · rw [if_neg (fun q => z ((hw i hi).mp q))]
        by_cases y : v < i
        · rw [if_pos y, if_pos (by omega)]
        · rw [if_neg y, if_neg (by omega)]]
    exact h)
  have h5 : qa_lm (qe (d + 3)) (qa_cd qc_270) (4, [.ref 192, .int (nI (if v < 5 then v else 5)), .int (nI 5), .retAddr 0], [], (qb_hp (qj u B), 149, c)) = R := by
    rw [show (if v < 5 then v else 5) = v from by split <;> omega]
    refine go_ild_4_2 rfl ?_
    refine go_c rfl ?_
    refine go_icgt rfl (fun e => ?_) (fun e => ?_)
    · exact hR
    · exact absurd (by decide) e
  have h0 := st 0 (by decide) (st 1 (by decide) (st 2 (by decide) (st 3 (by decide) (st 4 (by decide) h5))))
  rw [if_neg (by omega)] at h0
  refine (en_270 (d + 3) 192 _).trans ?_
  refine go_c rfl ?_
  refine go_ist_4_1 rfl rfl ?_
  refine go_c rfl ?_
  refine go_ist_4_2 rfl rfl ?_
  exact h0
